/-! the class's scalars, modulo L -/
theorem tN_not (x : Int64) : tN (x ^^^ (-1)) = 18446744073709551615 - tN x := by
  have e : (x ^^^ (-1)).toBitVec = ~~~ x.toBitVec := by
    rw [Int64.toBitVec_xor, show (-1 : Int64).toBitVec = BitVec.allOnes 64 by decide, BitVec.xor_allOnes]
  unfold tN
  rw [e, BitVec.toNat_not]
theorem tN_sub (x y : Int64) : tN (x - y) = (tN x + (18446744073709551616 - tN y)) % 18446744073709551616 := by
  unfold tN
  rw [Int64.toBitVec_sub, BitVec.toNat_sub]
  congr 1
  omega
theorem bit1 {a : Nat} (h : a < 18446744073709551616) : a / 2 ^ 63 = 0 ∨ a / 2 ^ 63 = 1 := by omega
theorem mjb : ∀ a, a < 2 → ∀ b, b < 2 → ∀ c, c < 2 → ((a &&& b) ||| ((a ||| b) &&& c)) = if a + b + c ≥ 2 then 1 else 0 := by decide
theorem maj_n {x y z : Int64} : tN (zus ((x &&& y) ||| ((x ||| y) &&& z)) 63) = if tN x / 2 ^ 63 + tN y / 2 ^ 63 + tN z / 2 ^ 63 ≥ 2 then 1 else 0 := by
  have hx := tN_lt x
  have hy := tN_lt y
  have hz := tN_lt z
  have e : tN ((x &&& y) ||| ((x ||| y) &&& z)) = (tN x &&& tN y) ||| ((tN x ||| tN y) &&& tN z) := by
    unfold tN
    rw [Int64.toBitVec_or, BitVec.toNat_or, Int64.toBitVec_and, BitVec.toNat_and, Int64.toBitVec_and, BitVec.toNat_and, Int64.toBitVec_or, BitVec.toNat_or]
  rw [mq_zus _ (by omega), e, Nat.or_div_two_pow, Nat.and_div_two_pow, Nat.and_div_two_pow, Nat.or_div_two_pow]
  exact mjb _ (by omega) _ (by omega) _ (by omega)
theorem carry_n {x y c : Int64} (hc : tN c < 2) : tN (x + y + c) + tN (zus ((x &&& y) ||| ((x ||| y) &&& ((x + y + c) ^^^ (-1)))) 63) * 18446744073709551616 = tN x + tN y + tN c := by
  have hx := tN_lt x
  have hy := tN_lt y
  have hz : tN (x + y + c) = (tN x + tN y + tN c) % 18446744073709551616 := by
    rw [tN_add, tN_add]
    omega
  rw [maj_n, tN_not, hz]
  split <;> omega
theorem borrow_n {x y c : Int64} (hc : tN c < 2) : tN (x - y - c) + tN y + tN c = tN x + tN (zus (((x ^^^ (-1)) &&& y) ||| (((x ^^^ (-1)) ||| y) &&& (x - y - c))) 63) * 18446744073709551616 := by
  have hx := tN_lt x
  have hy := tN_lt y
  have hz : tN (x - y - c) = (tN x + (18446744073709551616 - tN y) + (18446744073709551616 - tN c)) % 18446744073709551616 := by
    rw [tN_sub, tN_sub]
    omega
  rw [maj_n, tN_not, hz]
  split <;> omega
theorem zo : tN 0 = 0 := by decide
theorem wX_inc (a b : Nat) (s : zSt) : (∀ id, id ≠ a → (fX8_increase a b s).1 id = s.1 id) ∧ ∃ c, c < 2 ∧ rN ((fX8_increase a b s).1 a) 4 + c * 2 ^ 256 = rN (s.1 a) 4 + rN (s.1 b) 4 := by
  have H := ziter_I (fX8_increase_5 a b) (fun i (z : zSt × Int64) => (∀ id j, (id ≠ a ∨ i ≤ j) → z.1.1 id j = s.1 id j) ∧ tN z.2 < 2 ∧ rN (z.1.1 a) i + tN z.2 * 2 ^ (64 * i) = rN (s.1 a) i + rN (s.1 b) i) 4 ?_ 4 0 (s, 0) (by omega) ⟨fun _ _ _ => rfl, by show tN 0 < 2; rw [zo]; omega, by show 0 + tN 0 * _ = 0 + 0; rw [zo] <;> omega⟩
  · have eF : fX8_increase a b s = (ziter (fX8_increase_5 a b) 0 4 (s, 0)).1 := rfl
    rw [eF]
    generalize ziter (fX8_increase_5 a b) 0 4 (s, 0) = z at H
    obtain ⟨h1, h2, h3⟩ := H
    exact ⟨fun id h => funext fun j => h1 id j (Or.inl h), _, h2, h3⟩
  intro i z hi ⟨h1, h2, h3⟩
  have eF : fX8_increase_5 a b i z = (zW z.1 a i (s.1 a i + s.1 b i + z.2), zus ((s.1 a i &&& s.1 b i) ||| ((s.1 a i ||| s.1 b i) &&& ((s.1 a i + s.1 b i + z.2) ^^^ (-1)))) 63) := by
    unfold fX8_increase_5
    dsimp only
    rw [h1 a i (by omega), h1 b i (by omega)]
  have hc := carry_n (x := s.1 a i) (y := s.1 b i) h2
  rw [eF]
  generalize s.1 a i + s.1 b i + z.2 = w at hc ⊢
  generalize hcc : zus ((s.1 a i &&& s.1 b i) ||| ((s.1 a i ||| s.1 b i) &&& (w ^^^ (-1)))) 63 = cc at hc ⊢
  refine ⟨fun id j h => ?_, ?_, ?_⟩
  · show (zW z.1 a i w).1 id j = _
    by_cases e : id = a
    · subst e
      rw [zW_at, pk_uLn (by omega)]
      exact h1 id j (by omega)
    · rw [zW_ne _ _ _ e]
      exact h1 id j (Or.inl e)
  · show tN cc < 2
    have := tN_lt w
    have := tN_lt (s.1 a i)
    have := tN_lt (s.1 b i)
    omega
  · show rN ((zW z.1 a i w).1 a) (i + 1) + tN cc * 2 ^ (64 * (i + 1)) = _
    rw [zW_at, rN_succ, rN_succ, rN_succ, pk_uLs, npw, rN_congr (r' := z.1.1 a) (fun k hk => pk_uLn (by omega))]
    have key : ∀ (R c P S T W C X Y : Nat), R + c * P = S + T → W + C * 18446744073709551616 = X + Y + c → R + W * P + C * (18446744073709551616 * P) = S + X * P + (T + Y * P) := by
      intro R c P S T W C X Y e1 e2
      have e3 : (W + C * 18446744073709551616) * P = (X + Y + c) * P := by rw [e2]
      rw [Nat.add_mul, Nat.add_mul, Nat.add_mul, Nat.mul_assoc] at e3
      omega
    exact key _ _ _ _ _ _ _ _ _ h3 hc
theorem wX_dec (a b : Nat) (s : zSt) (hab : a ≠ b) : (∀ id, id ≠ a → (fX8_decrease a b s).1 id = s.1 id) ∧ ∃ c, rN ((fX8_decrease a b s).1 a) 4 + rN (s.1 b) 4 = rN (s.1 a) 4 + c * 2 ^ 256 := by
  have H := ziter_I (fX8_decrease_5 a b) (fun i (z : zSt × Int64) => (∀ id j, (id ≠ a ∨ i ≤ j) → z.1.1 id j = s.1 id j) ∧ tN z.2 < 2 ∧ rN (z.1.1 a) i + rN (s.1 b) i = rN (s.1 a) i + tN z.2 * 2 ^ (64 * i)) 4 ?_ 4 0 (s, 0) (by omega) ⟨fun _ _ _ => rfl, by show tN 0 < 2; rw [zo]; omega, by show 0 + 0 = 0 + tN 0 * _; rw [zo] <;> omega⟩
  · have eF : fX8_decrease a b s = (ziter (fX8_decrease_5 a b) 0 4 (s, 0)).1 := rfl
    rw [eF]
    generalize ziter (fX8_decrease_5 a b) 0 4 (s, 0) = z at H
    obtain ⟨h1, h2, h3⟩ := H
    exact ⟨fun id h => funext fun j => h1 id j (Or.inl h), _, h3⟩
  intro i z hi ⟨h1, h2, h3⟩
  have eF : fX8_decrease_5 a b i z = (zW z.1 a i (s.1 a i - s.1 b i - z.2), zus (((s.1 a i ^^^ (-1)) &&& s.1 b i) ||| (((s.1 a i ^^^ (-1)) ||| s.1 b i) &&& (s.1 a i - s.1 b i - z.2))) 63) := by
    unfold fX8_decrease_5
    dsimp only
    rw [h1 a i (by omega), h1 b i (by omega)]
  have hc := borrow_n (x := s.1 a i) (y := s.1 b i) h2
  rw [eF]
  generalize s.1 a i - s.1 b i - z.2 = w at hc ⊢
  generalize hcc : zus (((s.1 a i ^^^ (-1)) &&& s.1 b i) ||| (((s.1 a i ^^^ (-1)) ||| s.1 b i) &&& w)) 63 = cc at hc ⊢
  refine ⟨fun id j h => ?_, ?_, ?_⟩
  · show (zW z.1 a i w).1 id j = _
    by_cases e : id = a
    · subst e
      rw [zW_at, pk_uLn (by omega)]
      exact h1 id j (by omega)
    · rw [zW_ne _ _ _ e]
      exact h1 id j (Or.inl e)
  · show tN cc < 2
    have := tN_lt w
    have := tN_lt (s.1 a i)
    have := tN_lt (s.1 b i)
    omega
  · show rN ((zW z.1 a i w).1 a) (i + 1) + _ = _ + tN cc * 2 ^ (64 * (i + 1))
    rw [zW_at, rN_succ, rN_succ, rN_succ, pk_uLs, npw, rN_congr (r' := z.1.1 a) (fun k hk => pk_uLn (by omega))]
    have key : ∀ (R c P S T W C X Y : Nat), R + T = S + c * P → W + Y + c = X + C * 18446744073709551616 → R + W * P + (T + Y * P) = S + X * P + C * (18446744073709551616 * P) := by
      intro R c P S T W C X Y e1 e2
      have e3 : (W + Y + c) * P = (X + C * 18446744073709551616) * P := by rw [e2]
      rw [Nat.add_mul, Nat.add_mul, Nat.add_mul, Nat.mul_assoc] at e3
      omega
    exact key _ _ _ _ _ _ _ _ _ h3 hc
theorem sX_inc {a b : Nat} {s : zSt} {A B : Nat} (hA : rN (s.1 a) 4 = A) (hB : rN (s.1 b) 4 = B) (hL : rN (s.1 4) 4 = 7237005577332262213973186563042994240857116359379907606001950938285454250989) (h1 : A < 7237005577332262213973186563042994240857116359379907606001950938285454250989) (h2 : B < 7237005577332262213973186563042994240857116359379907606001950938285454250989) (ha : a ≠ 4) : (∀ id, id ≠ a → (fX4_increase a b s).1 id = s.1 id) ∧ rN ((fX4_increase a b s).1 a) 4 = (A + B) % 7237005577332262213973186563042994240857116359379907606001950938285454250989 := by
  obtain ⟨i1, c, hc, i2⟩ := wX_inc a b s
  have eF : fX4_increase a b s = if vX8_order a 4 (fX8_increase a b s) < 0 then fX8_increase a b s else fX8_decrease a 4 (fX8_increase a b s) := rfl
  rw [eF]
  have hlt := rN_lt ((fX8_increase a b s).1 a) 4
  generalize fX8_increase a b s = t at i1 i2 hlt ⊢
  have hL2 : rN (t.1 4) 4 = 7237005577332262213973186563042994240857116359379907606001950938285454250989 := by rw [i1 4 (by omega)]; exact hL
  rw [hA, hB] at i2
  have hT : rN (t.1 a) 4 = A + B := by omega
  have eo : vX8_order a 4 t < 0 ↔ A + B < 7237005577332262213973186563042994240857116359379907606001950938285454250989 := by rw [vX8_order_eq, cmp3_lt, hT, hL2]
  by_cases q : A + B < 7237005577332262213973186563042994240857116359379907606001950938285454250989
  · rw [if_pos (eo.mpr q), hT, Nat.mod_eq_of_lt q]
    exact ⟨i1, rfl⟩
  · rw [if_neg (fun z => q (eo.mp z))]
    obtain ⟨d1, e, d2⟩ := wX_dec a 4 t ha
    have hlt2 := rN_lt ((fX8_decrease a 4 t).1 a) 4
    rw [hT, hL2] at d2
    refine ⟨fun id h => (d1 id h).trans (i1 id h), ?_⟩
    rw [Nat.mod_eq_sub_mod (by omega), Nat.mod_eq_of_lt (by omega)]
    omega
theorem red_0 {M : Nat} (h : M % 2 ≠ 1) : ((M / 2) % 7237005577332262213973186563042994240857116359379907606001950938285454250989 + (M / 2) % 7237005577332262213973186563042994240857116359379907606001950938285454250989) % 7237005577332262213973186563042994240857116359379907606001950938285454250989 = M % 7237005577332262213973186563042994240857116359379907606001950938285454250989 := by
  rw [← Nat.add_mod, show M / 2 + M / 2 = M by omega]
theorem red_1 {M : Nat} (h : ¬ M % 2 ≠ 1) : (((M / 2) % 7237005577332262213973186563042994240857116359379907606001950938285454250989 + (M / 2) % 7237005577332262213973186563042994240857116359379907606001950938285454250989) % 7237005577332262213973186563042994240857116359379907606001950938285454250989 + 1) % 7237005577332262213973186563042994240857116359379907606001950938285454250989 = M % 7237005577332262213973186563042994240857116359379907606001950938285454250989 := by
  rw [← Nat.add_mod, Nat.mod_add_mod, show M / 2 + M / 2 + 1 = M by omega]
/-- what the scalars stand on -/
def kS (s : zSt) : Prop := rN (s.1 4) 4 = 7237005577332262213973186563042994240857116359379907606001950938285454250989 ∧ rN (s.1 5) 4 = 1
theorem kS_row {s t : zSt} (h : kS s) (e : ∀ id, id ≤ 10 → t.1 id = s.1 id) : kS t := by
  obtain ⟨h1, h2⟩ := h
  refine ⟨?_, ?_⟩
  · rw [e 4 (by omega)]; exact h1
  · rw [e 5 (by omega)]; exact h2
theorem sX_red {row k n out : Nat} {s : zSt} (hk : kS s) (ho : 10 < out) (hr : row ≠ out) (hn : 1 ≤ n) : (∀ id, id ≠ out → (fX4_reduce row k (64 * n) out s).1 id = s.1 id) ∧ rN ((fX4_reduce row k (64 * n) out s).1 out) 4 = rN (s.1 row) n % 7237005577332262213973186563042994240857116359379907606001950938285454250989 := by
  have eF : fX4_reduce row k (64 * n) out s = zdown (fX4_reduce_9 row k out) (64 * n) (fJ7_fill_d0a16 out 4 0 s) := by
    have : 64 * n - 1 + 1 = 64 * n := by omega
    show zdown (fX4_reduce_9 row k out) (64 * n - 1 + 1) _ = _
    rw [this]
  rw [eF]
  obtain ⟨f1, f2⟩ := fillL out 4 0 s
  generalize fJ7_fill_d0a16 out 4 0 s = t at f1 f2 ⊢
  have fr : ∀ id, id ≠ out → t.1 id = s.1 id := fun id h => funext fun j => f1 id j (Or.inl h)
  have z4 : rN (t.1 out) 4 = 0 := by
    rw [rN_4, f2 0 (by omega), f2 1 (by omega), f2 2 (by omega), f2 3 (by omega), zo]
  have hN := rN_lt (s.1 row) n
  have H := zdown_I (fX4_reduce_9 row k out) (fun j σ => j ≤ 64 * n ∧ (∀ id, id ≠ out → σ.1 id = s.1 id) ∧ rN (σ.1 out) 4 = rN (s.1 row) n / 2 ^ j % 7237005577332262213973186563042994240857116359379907606001950938285454250989) ?_ (64 * n) t ⟨Nat.le_refl _, fr, by rw [z4, Nat.div_eq_of_lt hN, Nat.zero_mod]⟩
  · generalize zdown (fX4_reduce_9 row k out) (64 * n) t = u at H ⊢
    obtain ⟨-, h1, h2⟩ := H
    rw [Nat.pow_zero, Nat.div_one] at h2
    exact ⟨h1, h2⟩
  intro j σ ⟨q0, q1, q2⟩
  have hkσ := kS_row (t := σ) hk (fun id h => q1 id (by omega))
  have e3 : rN (s.1 row) n / 2 ^ (j + 1) = rN (s.1 row) n / 2 ^ j / 2 := by rw [Nat.div_div_eq_div_mul, Nat.pow_succ]
  rw [e3] at q2
  obtain ⟨i1, i2⟩ := sX_inc q2 q2 hkσ.1 (Nat.mod_lt _ (by decide)) (Nat.mod_lt _ (by decide)) (by omega)
  have eG : ∀ u, u = fX4_increase out out σ → fX4_reduce_9 row k out j σ = if vX8_bit row k j u ≠ 1 then u else fX4_increase out 5 u := fun u h => by
    unfold fX4_reduce_9 fX4_reduce_a1 fX4_reduce_a2
    dsimp only
    rw [← h]
  generalize hu : fX4_increase out out σ = u at i1 i2
  rw [eG u hu.symm]
  have hku := kS_row (t := u) hkσ (fun id h => i1 id (by omega))
  have eb : vX8_bit row k j u = rN (s.1 row) n / 2 ^ j % 2 := by
    rw [vX8_bit_eq row k j n u (by omega), i1 row hr, q1 row hr]
  rw [eb]
  generalize rN (s.1 row) n / 2 ^ j = M at i2 ⊢
  by_cases q : M % 2 ≠ 1
  · rw [if_pos q]
    refine ⟨by omega, fun id h => (i1 id h).trans (q1 id h), ?_⟩
    rw [i2, red_0 q]
  · rw [if_neg q]
    obtain ⟨d1, d2⟩ := sX_inc i2 hku.2 hku.1 (Nat.mod_lt _ (by decide)) (by decide) (by omega)
    refine ⟨by omega, fun id h => (d1 id h).trans ((i1 id h).trans (q1 id h)), ?_⟩
    rw [d2, red_1 q]
theorem mul_0 {M A : Nat} (h : M % 2 ≠ 1) : ((M / 2 * A) % 7237005577332262213973186563042994240857116359379907606001950938285454250989 + (M / 2 * A) % 7237005577332262213973186563042994240857116359379907606001950938285454250989) % 7237005577332262213973186563042994240857116359379907606001950938285454250989 = (M * A) % 7237005577332262213973186563042994240857116359379907606001950938285454250989 := by
  rw [← Nat.add_mod, ← Nat.add_mul, show M / 2 + M / 2 = M by omega]
theorem mul_1 {M A : Nat} (h : ¬ M % 2 ≠ 1) : (((M / 2 * A) % 7237005577332262213973186563042994240857116359379907606001950938285454250989 + (M / 2 * A) % 7237005577332262213973186563042994240857116359379907606001950938285454250989) % 7237005577332262213973186563042994240857116359379907606001950938285454250989 + A % 7237005577332262213973186563042994240857116359379907606001950938285454250989) % 7237005577332262213973186563042994240857116359379907606001950938285454250989 = (M * A) % 7237005577332262213973186563042994240857116359379907606001950938285454250989 := by
  have e : (M / 2 * A % 7237005577332262213973186563042994240857116359379907606001950938285454250989 + M / 2 * A % 7237005577332262213973186563042994240857116359379907606001950938285454250989) % 7237005577332262213973186563042994240857116359379907606001950938285454250989 = (M / 2 * A + M / 2 * A) % 7237005577332262213973186563042994240857116359379907606001950938285454250989 := (Nat.add_mod _ _ _).symm
  rw [e, ← Nat.add_mod, ← Nat.add_mul, ← Nat.succ_mul, show Nat.succ (M / 2 + M / 2) = M by omega]
theorem sX_mad {a b e out : Nat} {s : zSt} (hk : kS s) (ha : a ≠ 63 ∧ a ≠ 64 ∧ a ≠ 65) (hb : b ≠ 63 ∧ b ≠ 64 ∧ b ≠ 65) (he : e ≠ 63 ∧ e ≠ 64 ∧ e ≠ 65) : (∀ id, id ≠ 63 → id ≠ 64 → id ≠ 65 → id ≠ out → (fX4_multiplyAndAdd a b e out s).1 id = s.1 id) ∧ rN ((fX4_multiplyAndAdd a b e out s).1 out) 4 = (rN (s.1 a) 4 * rN (s.1 b) 4 + rN (s.1 e) 4) % 7237005577332262213973186563042994240857116359379907606001950938285454250989 := by
  have eF : fX4_multiplyAndAdd a b e out s = fX8_move 64 out (fX4_increase 64 65 (zdown (fX4_multiplyAndAdd_35 b) 256 (fJ7_fill_d0a16 64 4 0 (fX4_reduce e 4 (64 * 4) 65 (fX4_reduce a 4 (64 * 4) 63 s))))) := rfl
  rw [eF]
  obtain ⟨a1, a2⟩ := sX_red (k := 4) (n := 4) hk (show 10 < 63 by omega) ha.1 (by omega)
  generalize fX4_reduce a 4 (64 * 4) 63 s = t1 at a1 a2 ⊢
  have hk1 := kS_row (t := t1) hk (fun id h => a1 id (by omega))
  obtain ⟨b1, b2⟩ := sX_red (k := 4) (n := 4) hk1 (show 10 < 65 by omega) he.2.2 (by omega)
  generalize fX4_reduce e 4 (64 * 4) 65 t1 = t2 at b1 b2 ⊢
  have hk2 := kS_row (t := t2) hk1 (fun id h => b1 id (by omega))
  rw [a1 e he.1] at b2
  have a3 : rN (t2.1 63) 4 = rN (s.1 a) 4 % 7237005577332262213973186563042994240857116359379907606001950938285454250989 := by rw [b1 63 (by omega)]; exact a2
  obtain ⟨f1, f2⟩ := fillL 64 4 0 t2
  generalize fJ7_fill_d0a16 64 4 0 t2 = t3 at f1 f2 ⊢
  have fr : ∀ id, id ≠ 64 → t3.1 id = t2.1 id := fun id h => funext fun j => f1 id j (Or.inl h)
  have z4 : rN (t3.1 64) 4 = 0 := by
    rw [rN_4, f2 0 (by omega), f2 1 (by omega), f2 2 (by omega), f2 3 (by omega), zo]
  have eB : rN (t3.1 b) 4 = rN (s.1 b) 4 := by rw [fr b hb.2.1, b1 b hb.2.2, a1 b hb.1]
  have hN := rN_lt (s.1 b) 4
  generalize rN (s.1 b) 4 = N at hN eB ⊢
  generalize rN (s.1 a) 4 = A at a3 ⊢
  have H := zdown_I (fX4_multiplyAndAdd_35 b) (fun j σ => j ≤ 256 ∧ (∀ id, id ≠ 64 → σ.1 id = t3.1 id) ∧ rN (σ.1 64) 4 = (N / 2 ^ j * A) % 7237005577332262213973186563042994240857116359379907606001950938285454250989) ?_ 256 t3 ⟨Nat.le_refl _, fun _ _ => rfl, by rw [z4, Nat.div_eq_of_lt hN, Nat.zero_mul, Nat.zero_mod]⟩
  · generalize zdown (fX4_multiplyAndAdd_35 b) 256 t3 = u at H ⊢
    obtain ⟨-, h1, h2⟩ := H
    rw [Nat.pow_zero, Nat.div_one] at h2
    have hku := kS_row (t := u) hk2 (fun id h => by rw [h1 id (by omega), fr id (by omega)])
    have e65 : rN (u.1 65) 4 = rN (s.1 e) 4 % 7237005577332262213973186563042994240857116359379907606001950938285454250989 := by rw [h1 65 (by omega), fr 65 (by omega)]; exact b2
    obtain ⟨g1, g2⟩ := sX_inc h2 e65 hku.1 (Nat.mod_lt _ (by decide)) (Nat.mod_lt _ (by decide)) (by omega)
    generalize fX4_increase 64 65 u = v at g1 g2 ⊢
    refine ⟨fun id n1 n2 n3 n4 => ?_, ?_⟩
    · show (zL v out _).1 id = _
      rw [zL_n _ _ n4, g1 id n2, h1 id n2, fr id n2, b1 id n3, a1 id n1]
    · have e9 : rN ((fX8_move 64 out v).1 out) 4 = rN (v.1 64) 4 := rN_congr (fun i hi => by
        show (zL v out (va_cpy (v.1 64) (v.1 out) 0 0 4)).1 out i = _
        rw [zL_s, pk_cpy_in (Nat.zero_le _) (by omega), show 0 + (i - 0) = i by omega])
      rw [e9, g2, ← Nat.add_mod, Nat.mul_comm]
  intro j σ ⟨q0, q1, q2⟩
  have hkσ := kS_row (t := σ) hk2 (fun id h => by rw [q1 id (by omega), fr id (by omega)])
  have e3 : N / 2 ^ (j + 1) = N / 2 ^ j / 2 := by rw [Nat.div_div_eq_div_mul, Nat.pow_succ]
  rw [e3] at q2
  obtain ⟨i1, i2⟩ := sX_inc q2 q2 hkσ.1 (Nat.mod_lt _ (by decide)) (Nat.mod_lt _ (by decide)) (by omega)
  have eG : ∀ u, u = fX4_increase 64 64 σ → fX4_multiplyAndAdd_35 b j σ = if vX8_bit b 4 j u ≠ 1 then u else fX4_increase 64 63 u := fun u h => by
    unfold fX4_multiplyAndAdd_35 fX4_multiplyAndAdd_a1 fX4_multiplyAndAdd_a2
    dsimp only
    rw [← h]
  generalize hu : fX4_increase 64 64 σ = u at i1 i2
  rw [eG u hu.symm]
  have hku := kS_row (t := u) hkσ (fun id h => i1 id (by omega))
  have e63 : rN (u.1 63) 4 = A % 7237005577332262213973186563042994240857116359379907606001950938285454250989 := by rw [i1 63 (by omega), q1 63 (by omega), fr 63 (by omega)]; exact a3
  have eb : vX8_bit b 4 j u = N / 2 ^ j % 2 := by
    rw [vX8_bit_eq b 4 j 4 u (by omega), i1 b hb.2.1, q1 b hb.2.1, eB]
  rw [eb]
  generalize N / 2 ^ j = M at i2 ⊢
  by_cases q : M % 2 ≠ 1
  · rw [if_pos q]
    refine ⟨by omega, fun id h => (i1 id h).trans (q1 id h), ?_⟩
    rw [i2, mul_0 q]
  · rw [if_neg q]
    obtain ⟨d1, d2⟩ := sX_inc i2 e63 hku.1 (Nat.mod_lt _ (by decide)) (Nat.mod_lt _ (by decide)) (by omega)
    refine ⟨by omega, fun id h => (d1 id h).trans ((i1 id h).trans (q1 id h)), ?_⟩
    rw [d2, mul_1 q]
