/-! products of points by numbers, on both sides -/
theorem cX_neutral {s : zSt} {P : Nat} (hP : 60 < P) : (∀ id, id ≠ 40 → ¬ (P ≤ id ∧ id ≤ P + 3) → (fX0_becomeNeutral P s).1 id = s.1 id) ∧ rX (fX0_becomeNeutral P s) P e0 := by
  unfold fX0_becomeNeutral fX0_complete
  dsimp only
  obtain ⟨w1, v1⟩ := cX_zero (s := s) (a := P + 0)
  generalize fX1_become (P + 0) 0 s = t1 at w1 v1 ⊢
  obtain ⟨w2, v2⟩ := cX_one (s := t1) (a := P + 1)
  have f2_0 := zf_row (t := fX1_become (P + 1) 1 t1) v1 (w2 (P + 0) (by omega))
  generalize fX1_become (P + 1) 1 t1 = t2 at w2 v2 f2_0 ⊢
  obtain ⟨w3, v3⟩ := cX_one (s := t2) (a := P + 2)
  have f3_0 := zf_row (t := fX1_become (P + 2) 1 t2) f2_0 (w3 (P + 0) (by omega))
  have f3_1 := zf_row (t := fX1_become (P + 2) 1 t2) v2 (w3 (P + 1) (by omega))
  generalize fX1_become (P + 2) 1 t2 = t3 at w3 v3 f3_0 f3_1 ⊢
  obtain ⟨w4, v4⟩ := cX_mul (out := P + 3) f3_0 f3_1 (by omega) (by omega) (by omega) (by omega)
  have f4_0 := zf_row (t := fX1_multiply (P + 0) (P + 1) (P + 3) t3) f3_0 (w4 (P + 0) (by omega) (by omega))
  have f4_1 := zf_row (t := fX1_multiply (P + 0) (P + 1) (P + 3) t3) f3_1 (w4 (P + 1) (by omega) (by omega))
  have f4_2 := zf_row (t := fX1_multiply (P + 0) (P + 1) (P + 3) t3) v3 (w4 (P + 2) (by omega) (by omega))
  generalize fX1_multiply (P + 0) (P + 1) (P + 3) t3 = t4 at w4 v4 f4_0 f4_1 f4_2 ⊢
  exact ⟨fun id n1 n2 => by rw [w4 id (by omega) (by omega), w3 id (by omega), w2 id (by omega), w1 id (by omega)], oc_0, 1, zc_one, zf_eq f4_0 (by decide), zf_eq f4_1 (by decide), f4_2, zf_eq v4 (by decide)⟩
theorem cM_neutral {s : zSt} {p : Nat} : (∀ id j, ¬ (id = 2 ∧ 16 * p ≤ j ∧ j < 16 * p + 64) → (fX10_neutral p s).1 id j = s.1 id j) ∧ rM (fX10_neutral p s) p e0 := by
  unfold fX10_neutral
  dsimp only
  obtain ⟨w1, v1⟩ := cM_put (s := s) (r := p) (v := 0) (by decide) (by decide)
  generalize fX10_put p 0 s = t1 at w1 v1 ⊢
  obtain ⟨w2, v2⟩ := cM_put (s := t1) (r := p + 1) (v := 1) (by decide) (by decide)
  have f2_0 := mf_row (t := fX10_put (p + 1) 1 t1) v1 (fun j hj => w2 2 (16 * p + j) (by omega))
  generalize fX10_put (p + 1) 1 t1 = t2 at w2 v2 f2_0 ⊢
  obtain ⟨w3, v3⟩ := cM_put (s := t2) (r := p + 2) (v := 1) (by decide) (by decide)
  have f3_0 := mf_row (t := fX10_put (p + 2) 1 t2) f2_0 (fun j hj => w3 2 (16 * p + j) (by omega))
  have f3_1 := mf_row (t := fX10_put (p + 2) 1 t2) v2 (fun j hj => w3 2 (16 * (p + 1) + j) (by omega))
  generalize fX10_put (p + 2) 1 t2 = t3 at w3 v3 f3_0 f3_1 ⊢
  obtain ⟨w4, v4⟩ := cM_put (s := t3) (r := p + 3) (v := 0) (by decide) (by decide)
  have f4_0 := mf_row (t := fX10_put (p + 3) 0 t3) f3_0 (fun j hj => w4 2 (16 * p + j) (by omega))
  have f4_1 := mf_row (t := fX10_put (p + 3) 0 t3) f3_1 (fun j hj => w4 2 (16 * (p + 1) + j) (by omega))
  have f4_2 := mf_row (t := fX10_put (p + 3) 0 t3) v3 (fun j hj => w4 2 (16 * (p + 2) + j) (by omega))
  generalize fX10_put (p + 3) 0 t3 = t4 at w4 v4 f4_0 f4_1 f4_2 ⊢
  exact ⟨fun id j n1 => by rw [w4 id j (by omega), w3 id j (by omega), w2 id j (by omega), w1 id j (by omega)], oc_0, 1, zc_one, mf_eq f4_0 (by decide), mf_eq f4_1 (by decide), mf_eq f4_2 (by decide), mf_eq v4 (by decide)⟩
theorem sm_dbl {A : Int × Int} (h : oc A) (n : Nat) : pe (ea (sm A n) (sm A n)) (sm A (2 * n)) := by
  rw [show 2 * n = n + n by omega]
  exact pe_symm (sm_add h n n)
theorem sm_succ (A : Int × Int) (n : Nat) : sm A (n + 1) = ea (sm A n) A := rfl
theorem sm_step {A : Int × Int} (h : oc A) {m n k : Nat} (e : k = m + n) : pe (ea (sm A m) (sm A n)) (sm A k) := by
  rw [e]
  exact pe_symm (sm_add h m n)
theorem cX_mulp {s : zSt} {P S ws : Nat} {A : Int × Int} (hA : rX s P A) (hd : zf s 74 (cd + cd) 2) (hP : 60 < P ∧ (P + 3 < 72 ∨ 163 < P)) (hS : 60 < S ∧ (S + 3 < 72 ∨ 163 < S)) (hw : ws ≠ 40 ∧ ¬ (75 ≤ ws ∧ ws ≤ 81) ∧ ¬ (84 ≤ ws ∧ ws ≤ 163) ∧ ¬ (S ≤ ws ∧ ws ≤ S + 3)) :
    (∀ id, id ≠ 40 → ¬ (75 ≤ id ∧ id ≤ 81) → ¬ (84 ≤ id ∧ id ≤ 163) → ¬ (S ≤ id ∧ id ≤ S + 3) → (fX0_multiply ws P S s).1 id = s.1 id) ∧ rX (fX0_multiply ws P S s) S (sm A (rN (s.1 ws) 4)) := by
  have eF : fX0_multiply ws P S s = zdown (fX0_multiply_59 ws S) 64 (fX0_becomeNeutral S (ziter (fX0_multiply_13 P) 1 15 (fX0_becomeNeutral 84 s))) := rfl
  rw [eF]
  have oA := hA.1
  obtain ⟨a1, a2⟩ := cX_neutral (s := s) (P := 84) (by omega)
  generalize fX0_becomeNeutral 84 s = t1 at a1 a2 ⊢
  have H := ziter_I (fX0_multiply_13 P) (fun i σ => 1 ≤ i ∧ (∀ id, id ≠ 40 → ¬ (75 ≤ id ∧ id ≤ 81) → ¬ (84 ≤ id ∧ id ≤ 163) → σ.1 id = s.1 id) ∧ ∀ j, j < i → rX σ (84 + 5 * j) (sm A j)) 16 ?_ 15 1 t1 (by omega) ?_
  rotate_left
  · intro i σ hi ⟨g0, g1, g2⟩
    have f1 := g2 (i - 1) (by omega)
    have f2 := rX_row (t := σ) hA (fun k hk => g1 (P + k) (by omega) (by omega) (by omega))
    obtain ⟨p1, p2⟩ := cX_padd (S := 84 + 5 * i) f1 f2 (zf_row hd (g1 74 (by omega) (by omega) (by omega))) (by omega) (by omega) (by omega)
    refine ⟨by omega, fun id q1 q2 q3 => ?_, fun j hj => ?_⟩
    · show (fX0_add (84 + 5 * (i - 1)) P (84 + 5 * i) σ).1 id = _
      rw [p1 id q1 q2 (by omega)]
      exact g1 id q1 q2 q3
    · show rX (fX0_add (84 + 5 * (i - 1)) P (84 + 5 * i) σ) (84 + 5 * j) (sm A j)
      by_cases q : j = i
      · subst q
        obtain ⟨k, rfl⟩ : ∃ k, j = k + 1 := ⟨j - 1, by omega⟩
        exact p2
      · exact rX_row (g2 j (by omega)) (fun k hk => p1 _ (by omega) (by omega) (by omega))
  · refine ⟨Nat.le_refl _, fun id q1 q2 q3 => a1 id q1 (by omega), fun j hj => ?_⟩
    have : j = 0 := by omega
    subst this
    exact a2
  generalize ziter (fX0_multiply_13 P) 1 15 t1 = t3 at H ⊢
  obtain ⟨-, g1, g2⟩ := H
  obtain ⟨n1, n2⟩ := cX_neutral (s := t3) (P := S) (by omega)
  generalize fX0_becomeNeutral S t3 = t4 at n1 n2 ⊢
  have hN := rN_lt (s.1 ws) 4
  have K := zdown_I (fX0_multiply_59 ws S) (fun j σ => j ≤ 64 ∧ (∀ id, id ≠ 40 → ¬ (75 ≤ id ∧ id ≤ 81) → ¬ (84 ≤ id ∧ id ≤ 163) → ¬ (S ≤ id ∧ id ≤ S + 3) → σ.1 id = s.1 id) ∧ (∀ i, i < 16 → rX σ (84 + 5 * i) (sm A i)) ∧ rX σ S (sm A (rN (s.1 ws) 4 / 2 ^ (4 * j)))) ?_ 64 t4 ?_
  rotate_left
  · intro j σ ⟨q0, q1, q2, q3⟩
    have Q := ziter_I (fX0_multiply_67 S) (fun i τ => (∀ id, id ≠ 40 → ¬ (75 ≤ id ∧ id ≤ 81) → ¬ (S ≤ id ∧ id ≤ S + 3) → τ.1 id = σ.1 id) ∧ rX τ S (sm A (2 ^ i * (rN (s.1 ws) 4 / 2 ^ (4 * (j + 1)))))) 4 (fun i τ hi ⟨w1, w2⟩ => by
        obtain ⟨y1, y2⟩ := cX_pdbl (S := S) w2 (by omega) (by omega)
        refine ⟨fun id r1 r2 r3 => ?_, ?_⟩
        · show (fX0_twice S S τ).1 id = _
          rw [y1 id r1 r2 r3]
          exact w1 id r1 r2 r3
        · have e := rX_pe y2 (sm_dbl oA _)
          rw [← Nat.mul_assoc, Nat.mul_comm 2, ← Nat.pow_succ] at e
          exact e) 4 0 σ (by omega) ⟨fun _ _ _ _ => rfl, by rw [Nat.pow_zero, Nat.one_mul]; exact q3⟩
    have eG : ∀ u, u = ziter (fX0_multiply_67 S) 0 4 σ → fX0_multiply_59 ws S j σ = fX0_add S (84 + 5 * vX8_nibble ws j u) S u := fun u h => by
      unfold fX0_multiply_59
      dsimp only
      rw [← h]
    generalize hu : ziter (fX0_multiply_67 S) 0 4 σ = u at Q
    rw [eG u hu.symm]
    obtain ⟨w1, w2⟩ := Q
    have ee : u.1 ws = s.1 ws := by rw [w1 ws hw.1 hw.2.1 hw.2.2.2, q1 ws hw.1 hw.2.1 hw.2.2.1 hw.2.2.2]
    have en : vX8_nibble ws j u = rN (s.1 ws) 4 / 2 ^ (4 * j) % 16 := by rw [vX8_nibble_eq ws j 4 u (by omega), ee]
    rw [en]
    have e3 : rN (s.1 ws) 4 / 2 ^ (4 * (j + 1)) = rN (s.1 ws) 4 / 2 ^ (4 * j) / 16 := by
      rw [Nat.div_div_eq_div_mul, show 4 * (j + 1) = 4 * j + 4 by omega, Nat.pow_add]
    rw [e3] at w2
    clear e3 en eG hu
    have hn : rN (s.1 ws) 4 / 2 ^ (4 * j) % 16 < 16 := Nat.mod_lt _ (by decide)
    generalize rN (s.1 ws) 4 / 2 ^ (4 * j) = M at w2 hn ⊢
    have f1 := rX_row (t := u) (q2 _ hn) (fun k hk => w1 _ (by omega) (by omega) (by omega))
    have hdu := zf_row (t := u) hd (by rw [w1 74 (by omega) (by omega) (by omega), q1 74 (by omega) (by omega) (by omega) (by omega)])
    obtain ⟨y1, y2⟩ := cX_padd (S := S) w2 f1 hdu (by omega) (by omega) (by omega)
    refine ⟨by omega, fun id r1 r2 r3 r4 => ?_, fun i hi => ?_, ?_⟩
    · rw [y1 id r1 r2 r4, w1 id r1 r2 r4]
      exact q1 id r1 r2 r3 r4
    · refine rX_row (q2 i hi) (fun k hk => ?_)
      rw [y1 _ (by omega) (by omega) (by omega), w1 _ (by omega) (by omega) (by omega)]
    · exact rX_pe y2 (sm_step oA (by omega))
  · refine ⟨Nat.le_refl _, fun id r1 r2 r3 r4 => ?_, fun i hi => ?_, ?_⟩
    · rw [n1 id r1 r4]
      exact g1 id r1 r2 r3
    · exact rX_row (g2 i hi) (fun k hk => n1 _ (by omega) (by omega))
    · rw [Nat.div_eq_of_lt hN]
      exact n2
  generalize zdown (fX0_multiply_59 ws S) 64 t4 = t5 at K ⊢
  refine ⟨K.2.1, ?_⟩
  have := K.2.2.2
  rw [Nat.mul_zero, Nat.pow_zero, Nat.div_one] at this
  exact this
theorem cM_many {s : zSt} {r p e : Nat} {A : Int × Int} (hA : rM s p A) (hd : mf s 3 (cd + cd) 1) (hr : 3 < r ∧ r + 3 < 26) (hp : 3 < p ∧ p + 3 < 26) (hrp : p + 3 < r ∨ r + 3 < p) :
    (∀ id j, id ≠ 3 → ¬ (id = 2 ∧ 416 ≤ j ∧ j < 544) → ¬ (id = 2 ∧ 16 * r ≤ j ∧ j < 16 * r + 64) → (fX10_many r p e s).1 id j = s.1 id j) ∧ rM (fX10_many r p e s) r (sm A (w4 s e)) := by
  have eF : fX10_many r p e s = zdown (fX10_many_10 r p e) 256 (fX10_neutral r s) := rfl
  rw [eF]
  have oA := hA.1
  obtain ⟨n1, n2⟩ := cM_neutral (s := s) (p := r)
  generalize fX10_neutral r s = t2 at n1 n2 ⊢
  have hN : w4 s e < 2 ^ 256 := rN_lt _ 4
  have K := zdown_I (fX10_many_10 r p e) (fun j σ => j ≤ 256 ∧ (∀ id j, id ≠ 3 → ¬ (id = 2 ∧ 416 ≤ j ∧ j < 544) → ¬ (id = 2 ∧ 16 * r ≤ j ∧ j < 16 * r + 64) → σ.1 id j = s.1 id j) ∧ rM σ r (sm A (w4 s e / 2 ^ j))) ?_ 256 t2 ?_
  rotate_left
  · intro j σ ⟨q0, q1, q3⟩
    have hdσ := mf_row (t := σ) hd (fun i hi => q1 2 (16 * 3 + i) (by omega) (by omega) (by omega))
    obtain ⟨m1, m2⟩ := cM_padd q3 q3 hdσ (by omega) (by omega)
    have eG : ∀ u, u = fX10_addPoint r r σ → fX10_many_10 r p e j σ = if vX10_bit e j u ≠ 1 then u else fX10_addPoint r p u := fun u h => by
      unfold fX10_many_10 fX10_many_a1 fX10_many_a2
      dsimp only
      rw [← h]
    have hdu := mf_row (t := fX10_addPoint r r σ) hdσ (fun i hi => m1 2 (16 * 3 + i) (by omega) (by omega) (by omega))
    generalize hu : fX10_addPoint r r σ = u at m1 m2 hdu
    rw [eG u hu.symm]
    have ew : w4 u e = w4 s e := w4_keep (fun i hi => by rw [m1 4 (e + i) (by omega) (by omega) (by omega), q1 4 (e + i) (by omega) (by omega) (by omega)])
    have eb : vX10_bit e j u = w4 s e / 2 ^ j % 2 := by
      rw [vX10_bit_eq e j u (by omega)]
      show w4 u e / 2 ^ j % 2 = _
      rw [ew]
    have e3 : w4 s e / 2 ^ (j + 1) = w4 s e / 2 ^ j / 2 := by rw [Nat.div_div_eq_div_mul, Nat.pow_succ]
    rw [e3] at m2
    rw [eb]
    clear eb ew e3 eG hu
    generalize w4 s e / 2 ^ j = M at m2 ⊢
    have m3 := rM_pe m2 (sm_dbl oA _)
    by_cases q : M % 2 ≠ 1
    · rw [if_pos q]
      refine ⟨by omega, fun id i n1 n2 n3 => ?_, ?_⟩
      · rw [m1 id i n1 n2 n3]
        exact q1 id i n1 n2 n3
      · rw [show 2 * (M / 2) = M by omega] at m3
        exact m3
    · rw [if_neg q]
      have hAu := rM_row (t := u) hA (fun i h1 h2 => by rw [m1 2 i (by omega) (by omega) (by omega), q1 2 i (by omega) (by omega) (by omega)])
      obtain ⟨y1, y2⟩ := cM_padd m3 hAu hdu (by omega) (by omega)
      refine ⟨by omega, fun id i n1 n2 n3 => ?_, ?_⟩
      · rw [y1 id i n1 n2 n3, m1 id i n1 n2 n3]
        exact q1 id i n1 n2 n3
      · rw [← sm_succ, show 2 * (M / 2) + 1 = M by omega] at y2
        exact y2
  · refine ⟨Nat.le_refl _, fun id j r1 r2 r3 => n1 id j r3, ?_⟩
    rw [Nat.div_eq_of_lt hN]
    exact n2
  generalize zdown (fX10_many_10 r p e) 256 t2 = t5 at K ⊢
  refine ⟨K.2.1, ?_⟩
  have := K.2.2
  rw [Nat.pow_zero, Nat.div_one] at this
  exact this
