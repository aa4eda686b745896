/-! the class's products; M is 2^57 -/
theorem rg_a (R x P V w y Q : Int) : R + x * P * V + ((w + x * y) - w) * (P * Q) = R + x * P * (V + y * Q) := by grind
theorem rg_b (R x P V W w y Q : Int) : R + 2 * x * P * (V - W) + ((w + 2 * x * y) - w) * (P * Q) = R + 2 * x * P * ((V + y * Q) - W) := by grind
theorem rg_c (S x P V : Int) : S * (2 * V - S) + x * x * (P * P) + 2 * x * P * (V - (S + x * P)) = (S + x * P) * (2 * V - (S + x * P)) := by grind
theorem vX_inner (b i : Nat) (x : Int64) (σ : zSt) (hi : i < 10) (hb : b ≠ 40) {A B : Int} (hx : -A ≤ x.toInt ∧ x.toInt ≤ A) (hB : zrb (σ.1 b) B) (hM : A * B ≤ 144115188075855872) (hW : ∀ k, k < 20 → -2882303761517117440 ≤ (σ.1 40 k).toInt ∧ (σ.1 40 k).toInt ≤ 2882303761517117440) :
    zfr [40] σ (ziter (fX1_multiply_27 b i x) 0 10 σ) ∧ rv 26 ((ziter (fX1_multiply_27 b i x) 0 10 σ).1 40) 20 = rv 26 (σ.1 40) 20 + x.toInt * 2 ^ (26 * i) * rv 26 (σ.1 b) 10
      ∧ (∀ k, (k < i ∨ i + 10 ≤ k) → (ziter (fX1_multiply_27 b i x) 0 10 σ).1 40 k = σ.1 40 k)
      ∧ (∀ k, k < 20 → -144115188075855872 ≤ ((ziter (fX1_multiply_27 b i x) 0 10 σ).1 40 k).toInt - (σ.1 40 k).toInt ∧ ((ziter (fX1_multiply_27 b i x) 0 10 σ).1 40 k).toInt - (σ.1 40 k).toInt ≤ 144115188075855872) := by
  refine ziter_I (fX1_multiply_27 b i x) (fun j τ => zfr [40] σ τ ∧ rv 26 (τ.1 40) 20 = rv 26 (σ.1 40) 20 + x.toInt * 2 ^ (26 * i) * rv 26 (σ.1 b) j ∧ (∀ k, (k < i ∨ i + j ≤ k) → τ.1 40 k = σ.1 40 k) ∧ (∀ k, k < 20 → -144115188075855872 ≤ (τ.1 40 k).toInt - (σ.1 40 k).toInt ∧ (τ.1 40 k).toInt - (σ.1 40 k).toInt ≤ 144115188075855872)) 10 ?_ 10 0 σ (by omega)
    ⟨zfr.refl, by rw [rv_0, Int.mul_zero, Int.add_zero], fun _ _ => rfl, fun _ _ => by omega⟩
  intro j τ hj ⟨h1, h2, h3, h4⟩
  have eb : τ.1 b = σ.1 b := h1 b (fun e => hb (List.mem_singleton.mp e))
  have hp := mq_mulb hx (hB j hj)
  have hw := hW (i + j) (by omega)
  have e3 := h3 (i + j) (by omega)
  have hprod : (x * σ.1 b j).toInt = x.toInt * (σ.1 b j).toInt := mq_mulL (by omega) (by omega)
  have hsum : (σ.1 40 (i + j) + x * σ.1 b j).toInt = (σ.1 40 (i + j)).toInt + x.toInt * (σ.1 b j).toInt := by
    rw [mq_addL (by rw [hprod]; omega) (by rw [hprod]; omega), hprod]
  have eF : fX1_multiply_27 b i x j τ = zW τ 40 (i + j) (σ.1 40 (i + j) + x * σ.1 b j) := by
    show zW τ 40 (i + j) (τ.1 40 (i + j) + x * τ.1 b j) = _
    rw [eb, e3]
  rw [eF]
  refine ⟨fun id hid => ?_, ?_, fun k hk => ?_, fun k hk => ?_⟩
  · rw [zW_ne _ _ _ (fun e => hid (by rw [e]; exact List.mem_singleton.mpr rfl))]
    exact h1 id hid
  · rw [zW_at, rv_upd (by omega), hsum, h2, rv_succ, e3]
    have e5 : (2 : Int) ^ (26 * (i + j)) = 2 ^ (26 * i) * 2 ^ (26 * j) := by rw [Nat.mul_add, Int.pow_add]
    rw [e5]
    exact rg_a _ _ _ _ _ _ _
  · rw [zW_at, pk_uLn (by omega)]
    exact h3 k (by omega)
  · rw [zW_at]
    by_cases e : k = i + j
    · rw [e, pk_uLs, hsum]
      omega
    · rw [pk_uLn e]
      exact h4 k hk
theorem vX_outer (a b : Nat) (s : zSt) (ha : a ≠ 40) (hb : b ≠ 40) {A B : Int} (hA : zrb (s.1 a) A) (hB : zrb (s.1 b) B) (hM : A * B ≤ 144115188075855872) (h0 : ∀ k, k < 20 → s.1 40 k = 0) :
    zfr [40] s (ziter (fX1_multiply_11 a b) 0 10 s) ∧ rv 26 ((ziter (fX1_multiply_11 a b) 0 10 s).1 40) 20 = v10 (s.1 a) * v10 (s.1 b)
      ∧ (∀ k, k < 20 → -1441151880758558720 ≤ ((ziter (fX1_multiply_11 a b) 0 10 s).1 40 k).toInt ∧ ((ziter (fX1_multiply_11 a b) 0 10 s).1 40 k).toInt ≤ 1441151880758558720)
      ∧ ((ziter (fX1_multiply_11 a b) 0 10 s).1 40 19).toInt = 0 ∧ -144115188075855872 ≤ ((ziter (fX1_multiply_11 a b) 0 10 s).1 40 18).toInt ∧ ((ziter (fX1_multiply_11 a b) 0 10 s).1 40 18).toInt ≤ 144115188075855872 := by
  have z0 : (0 : Int64).toInt = 0 := by decide
  have hs0 : rv 26 (s.1 40) 20 = 0 := by
    have e : rv 26 (s.1 40) 20 = rv 26 (fun _ => 0) 20 := rv_congr h0
    rw [e]
    decide
  have H := ziter_I (fX1_multiply_11 a b) (fun i σ => zfr [40] s σ ∧ rv 26 (σ.1 40) 20 = rv 26 (s.1 a) i * v10 (s.1 b) ∧ (∀ k, k < 20 → -(144115188075855872 * (i : Int)) ≤ (σ.1 40 k).toInt ∧ (σ.1 40 k).toInt ≤ 144115188075855872 * (i : Int)) ∧ (∀ k, k < 20 → i + 9 ≤ k → (σ.1 40 k).toInt = 0) ∧ -144115188075855872 ≤ (σ.1 40 18).toInt ∧ (σ.1 40 18).toInt ≤ 144115188075855872) 10 ?_ 10 0 s (by omega)
    ⟨zfr.refl, by rw [rv_0, Int.zero_mul, hs0], fun k hk => by rw [h0 k hk, z0]; omega, fun k hk _ => by rw [h0 k hk, z0], by rw [h0 18 (by omega), z0]; omega, by rw [h0 18 (by omega), z0]; omega⟩
  · obtain ⟨g1, g2, g3, g4, g5, g6⟩ := H
    exact ⟨g1, g2, fun k hk => by have := g3 k hk; omega, g4 19 (by omega) (by omega), g5, g6⟩
  intro i σ hi ⟨h1, h2, h3, h4, h5, h6⟩
  have ea : σ.1 a = s.1 a := h1 a (fun e => ha (List.mem_singleton.mp e))
  have eb : σ.1 b = s.1 b := h1 b (fun e => hb (List.mem_singleton.mp e))
  obtain ⟨g1, g2, g3, g4⟩ := vX_inner b i (σ.1 a i) σ hi hb (A := A) (B := B) (by rw [ea]; exact hA i hi) (by rw [eb]; exact hB) hM (fun k hk => by have := h3 k hk; omega)
  refine ⟨h1.trans g1 (fun _ h => h) (fun _ h => h), ?_, fun k hk => ?_, fun k hk hk2 => ?_, ?_⟩
  · show rv 26 ((ziter (fX1_multiply_27 b i (σ.1 a i)) 0 10 σ).1 40) 20 = _
    rw [g2, h2, rv_succ, ea, eb]
    exact (Int.add_mul _ _ _).symm
  · have p1 := h3 k hk
    have p2 := g4 k hk
    show -(144115188075855872 * ((i + 1 : Nat) : Int)) ≤ ((ziter (fX1_multiply_27 b i (σ.1 a i)) 0 10 σ).1 40 k).toInt ∧ ((ziter (fX1_multiply_27 b i (σ.1 a i)) 0 10 σ).1 40 k).toInt ≤ 144115188075855872 * ((i + 1 : Nat) : Int)
    omega
  · show ((ziter (fX1_multiply_27 b i (σ.1 a i)) 0 10 σ).1 40 k).toInt = 0
    rw [g3 k (by omega)]
    exact h4 k hk (by omega)
  · show -144115188075855872 ≤ ((ziter (fX1_multiply_27 b i (σ.1 a i)) 0 10 σ).1 40 18).toInt ∧ ((ziter (fX1_multiply_27 b i (σ.1 a i)) 0 10 σ).1 40 18).toInt ≤ 144115188075855872
    by_cases q : i = 9
    · have p1 := h4 18 (by omega) (by omega)
      have p2 := g4 18 (by omega)
      omega
    · rw [g3 18 (by omega)]
      exact ⟨h5, h6⟩
theorem vX_sqinner (a i : Nat) (x : Int64) (σ : zSt) (hi : i < 10) (ha : a ≠ 40) {A : Int} (hx : -A ≤ x.toInt ∧ x.toInt ≤ A) (hA : zrb (σ.1 a) A) (hM : A * A ≤ 144115188075855872) (hW : ∀ k, k < 20 → -2882303761517117440 ≤ (σ.1 40 k).toInt ∧ (σ.1 40 k).toInt ≤ 2882303761517117440) (hA2 : A ≤ 1073741824) :
    zfr [40] σ (ziter (fX1_square_42 a i x) (i + 1) (10 - (i + 1)) σ) ∧ rv 26 ((ziter (fX1_square_42 a i x) (i + 1) (10 - (i + 1)) σ).1 40) 20 = rv 26 (σ.1 40) 20 + 2 * x.toInt * 2 ^ (26 * i) * (rv 26 (σ.1 a) 10 - rv 26 (σ.1 a) (i + 1))
      ∧ (∀ k, (k < 2 * i + 1 ∨ i + 10 ≤ k) → (ziter (fX1_square_42 a i x) (i + 1) (10 - (i + 1)) σ).1 40 k = σ.1 40 k)
      ∧ (∀ k, k < 20 → -288230376151711744 ≤ ((ziter (fX1_square_42 a i x) (i + 1) (10 - (i + 1)) σ).1 40 k).toInt - (σ.1 40 k).toInt ∧ ((ziter (fX1_square_42 a i x) (i + 1) (10 - (i + 1)) σ).1 40 k).toInt - (σ.1 40 k).toInt ≤ 288230376151711744) := by
  refine ziter_I (fX1_square_42 a i x) (fun j τ => i + 1 ≤ j ∧ zfr [40] σ τ ∧ rv 26 (τ.1 40) 20 = rv 26 (σ.1 40) 20 + 2 * x.toInt * 2 ^ (26 * i) * (rv 26 (σ.1 a) j - rv 26 (σ.1 a) (i + 1)) ∧ (∀ k, (k < 2 * i + 1 ∨ i + j ≤ k) → τ.1 40 k = σ.1 40 k) ∧ (∀ k, k < 20 → -288230376151711744 ≤ (τ.1 40 k).toInt - (σ.1 40 k).toInt ∧ (τ.1 40 k).toInt - (σ.1 40 k).toInt ≤ 288230376151711744)) 10 ?_ (10 - (i + 1)) (i + 1) σ (by omega)
    ⟨Nat.le_refl _, zfr.refl, by rw [Int.sub_self, Int.mul_zero, Int.add_zero], fun _ _ => rfl, fun _ _ => by omega⟩ |>.2
  intro j τ hj ⟨h0, h1, h2, h3, h4⟩
  have ea : τ.1 a = σ.1 a := h1 a (fun e => ha (List.mem_singleton.mp e))
  have hp := mq_mulb hx (hA j hj)
  have hw := hW (i + j) (by omega)
  have e3 := h3 (i + j) (by omega)
  have e2 : (2 : Int64).toInt = 2 := by decide
  have h2x : (2 * x).toInt = 2 * x.toInt := by rw [mq_mulL (by rw [e2]; omega) (by rw [e2]; omega), e2]
  have ep : 2 * x.toInt * (σ.1 a j).toInt = 2 * (x.toInt * (σ.1 a j).toInt) := Int.mul_assoc _ _ _
  have hprod : (2 * x * σ.1 a j).toInt = 2 * x.toInt * (σ.1 a j).toInt := by rw [mq_mulL (by rw [h2x, ep]; omega) (by rw [h2x, ep]; omega), h2x]
  have hsum : (σ.1 40 (i + j) + 2 * x * σ.1 a j).toInt = (σ.1 40 (i + j)).toInt + 2 * x.toInt * (σ.1 a j).toInt := by
    rw [mq_addL (by rw [hprod]; omega) (by rw [hprod]; omega), hprod]
  have eF : fX1_square_42 a i x j τ = zW τ 40 (i + j) (σ.1 40 (i + j) + 2 * x * σ.1 a j) := by
    show zW τ 40 (i + j) (τ.1 40 (i + j) + 2 * x * τ.1 a j) = _
    rw [ea, e3]
  rw [eF]
  refine ⟨by omega, fun id hid => ?_, ?_, fun k hk => ?_, fun k hk => ?_⟩
  · rw [zW_ne _ _ _ (fun e => hid (by rw [e]; exact List.mem_singleton.mpr rfl))]
    exact h1 id hid
  · rw [zW_at, rv_upd (by omega), hsum, h2, rv_succ, e3]
    have e5 : (2 : Int) ^ (26 * (i + j)) = 2 ^ (26 * i) * 2 ^ (26 * j) := by rw [Nat.mul_add, Int.pow_add]
    rw [e5]
    exact rg_b _ _ _ _ _ _ _ _
  · rw [zW_at, pk_uLn (by omega)]
    exact h3 k (by omega)
  · rw [zW_at]
    by_cases e : k = i + j
    · rw [e, pk_uLs, hsum]
      omega
    · rw [pk_uLn e]
      exact h4 k hk
theorem vX_sqouter (a : Nat) (s : zSt) (ha : a ≠ 40) {A : Int} (hA : zrb (s.1 a) A) (hM : A * A ≤ 144115188075855872) (hA2 : A ≤ 1073741824) (h0 : ∀ k, k < 20 → s.1 40 k = 0) :
    zfr [40] s (ziter (fX1_square_10 a) 0 10 s) ∧ rv 26 ((ziter (fX1_square_10 a) 0 10 s).1 40) 20 = v10 (s.1 a) * v10 (s.1 a)
      ∧ (∀ k, k < 20 → -2882303761517117440 ≤ ((ziter (fX1_square_10 a) 0 10 s).1 40 k).toInt ∧ ((ziter (fX1_square_10 a) 0 10 s).1 40 k).toInt ≤ 2882303761517117440)
      ∧ ((ziter (fX1_square_10 a) 0 10 s).1 40 19).toInt = 0 ∧ -144115188075855872 ≤ ((ziter (fX1_square_10 a) 0 10 s).1 40 18).toInt ∧ ((ziter (fX1_square_10 a) 0 10 s).1 40 18).toInt ≤ 144115188075855872 := by
  have z0 : (0 : Int64).toInt = 0 := by decide
  have hs0 : rv 26 (s.1 40) 20 = 0 := by
    have e : rv 26 (s.1 40) 20 = rv 26 (fun _ => 0) 20 := rv_congr h0
    rw [e]
    decide
  have H := ziter_I (fX1_square_10 a) (fun i σ => zfr [40] s σ ∧ rv 26 (σ.1 40) 20 = rv 26 (s.1 a) i * (2 * v10 (s.1 a) - rv 26 (s.1 a) i) ∧ (∀ k, k < 20 → -(288230376151711744 * (i : Int)) ≤ (σ.1 40 k).toInt ∧ (σ.1 40 k).toInt ≤ 288230376151711744 * (i : Int)) ∧ (∀ k, k < 20 → i + 9 ≤ k → (σ.1 40 k).toInt = 0) ∧ -144115188075855872 ≤ (σ.1 40 18).toInt ∧ (σ.1 40 18).toInt ≤ 144115188075855872) 10 ?_ 10 0 s (by omega)
    ⟨zfr.refl, by rw [rv_0, Int.zero_mul, hs0], fun k hk => by rw [h0 k hk, z0]; omega, fun k hk _ => by rw [h0 k hk, z0], by rw [h0 18 (by omega), z0]; omega, by rw [h0 18 (by omega), z0]; omega⟩
  · obtain ⟨g1, g2, g3, g4, g5, g6⟩ := H
    refine ⟨g1, ?_, fun k hk => by have := g3 k hk; omega, g4 19 (by omega) (by omega), g5, g6⟩
    rw [g2]
    show v10 (s.1 a) * (2 * v10 (s.1 a) - v10 (s.1 a)) = _
    grind
  intro i σ hi ⟨h1, h2, h3, h4, h5, h6⟩
  have ea : σ.1 a = s.1 a := h1 a (fun e => ha (List.mem_singleton.mp e))
  have hp := mq_mulb (hA i hi) (hA i hi)
  have hprod : (s.1 a i * s.1 a i).toInt = (s.1 a i).toInt * (s.1 a i).toInt := mq_mulL (by omega) (by omega)
  have h32 := h3 (2 * i) (by omega)
  have hsum : (σ.1 40 (2 * i) + s.1 a i * s.1 a i).toInt = (σ.1 40 (2 * i)).toInt + (s.1 a i).toInt * (s.1 a i).toInt := by
    rw [mq_addL (by rw [hprod]; omega) (by rw [hprod]; omega), hprod]
  have eF : fX1_square_10 a i σ = ziter (fX1_square_42 a i (s.1 a i)) (i + 1) (10 - (i + 1)) (zW σ 40 (2 * i) (σ.1 40 (2 * i) + s.1 a i * s.1 a i)) := by
    show ziter (fX1_square_42 a i (σ.1 a i)) (i + 1) (10 - (i + 1)) (zW σ 40 (2 * i) (σ.1 40 (2 * i) + σ.1 a i * σ.1 a i)) = _
    rw [ea]
  have hne : a ≠ 40 := ha
  have hτa : (zW σ 40 (2 * i) (σ.1 40 (2 * i) + s.1 a i * s.1 a i)).1 a = s.1 a := by rw [zW_ne _ _ _ hne, ea]
  have hτk : ∀ k, k ≠ 2 * i → (zW σ 40 (2 * i) (σ.1 40 (2 * i) + s.1 a i * s.1 a i)).1 40 k = σ.1 40 k := fun k hk => by rw [zW_at, pk_uLn hk]
  have hτi : ((zW σ 40 (2 * i) (σ.1 40 (2 * i) + s.1 a i * s.1 a i)).1 40 (2 * i)).toInt = (σ.1 40 (2 * i)).toInt + (s.1 a i).toInt * (s.1 a i).toInt := by rw [zW_at, pk_uLs, hsum]
  have hτr : rv 26 ((zW σ 40 (2 * i) (σ.1 40 (2 * i) + s.1 a i * s.1 a i)).1 40) 20 = rv 26 (σ.1 40) 20 + (s.1 a i).toInt * (s.1 a i).toInt * 2 ^ (26 * (2 * i)) := by
    rw [zW_at, rv_upd (by omega), hsum]
    congr 2
    omega
  have hτf : zfr [40] σ (zW σ 40 (2 * i) (σ.1 40 (2 * i) + s.1 a i * s.1 a i)) := fun id hid => zW_ne _ _ _ (fun e => hid (by rw [e]; exact List.mem_singleton.mpr rfl))
  generalize zW σ 40 (2 * i) (σ.1 40 (2 * i) + s.1 a i * s.1 a i) = τ at eF hτa hτk hτi hτr hτf
  obtain ⟨g1, g2, g3, g4⟩ := vX_sqinner a i (s.1 a i) τ hi ha (A := A) (hA i hi) (by rw [hτa]; exact hA) hM (fun k hk => by
    have p := h3 k hk
    by_cases q : k = 2 * i
    · subst q
      rw [hτi]
      omega
    · rw [hτk k q]
      omega) hA2
  rw [eF]
  refine ⟨(h1.trans hτf (W := [40]) (fun _ h => h) (fun _ h => h)).trans g1 (fun _ h => h) (fun _ h => h), ?_, fun k hk => ?_, fun k hk hk2 => ?_, ?_⟩
  · rw [g2, hτr, h2, hτa, rv_succ]
    have e5 : (2 : Int) ^ (26 * (2 * i)) = 2 ^ (26 * i) * 2 ^ (26 * i) := by rw [show 26 * (2 * i) = 26 * i + 26 * i by omega, Int.pow_add]
    rw [e5]
    exact rg_c _ _ _ _
  · have p1 := h3 k hk
    have p2 := g4 k hk
    by_cases q : k = 2 * i
    · subst q
      rw [g3 (2 * i) (by omega), hτi]
      omega
    · rw [hτk k q] at p2
      omega
  · rw [g3 k (by omega), hτk k (by omega)]
    exact h4 k hk (by omega)
  · by_cases q : i = 9
    · subst q
      rw [g3 18 (by omega), show (18 : Nat) = 2 * 9 from rfl, hτi]
      have p1 := h4 (2 * 9) (by omega) (by omega)
      omega
    · by_cases q8 : i = 8
      · subst q8
        rw [g3 18 (by omega), hτk 18 (by omega)]
        exact ⟨h5, h6⟩
      · rw [g3 18 (by omega), hτk 18 (by omega)]
        exact ⟨h5, h6⟩
