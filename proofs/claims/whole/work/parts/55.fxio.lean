/-! words to limbs and back -/
theorem or_l {x y : Int64} {k c : Nat} (hx : tN x < 2 ^ k) (hy : tN y = c * 2 ^ k) : tN (x ||| y) = tN x + c * 2 ^ k := by
  rw [tN_or, hy, mq_or hx]
  omega
/-- the limbs of a number -/
theorem limbs_sum (w : Nat) (f : Nat → Int) (N : Nat) : ∀ n, (∀ i, i < n → f i = ((N / 2 ^ (w * i) % 2 ^ w : Nat) : Int)) → zvl w f n = ((N % 2 ^ (w * n) : Nat) : Int)
  | 0, _ => by
    show (0 : Int) = ((N % 2 ^ (w * 0) : Nat) : Int)
    rw [Nat.mul_zero, Nat.pow_zero, Nat.mod_one]
    rfl
  | n + 1, h => by
    show zvl w f n + f n * 2 ^ (w * n) = _
    rw [limbs_sum w f N n (fun i hi => h i (by omega)), h n (by omega), show w * (n + 1) = w * n + w from Nat.mul_succ _ _, Nat.pow_add, Nat.mod_mul, Int.natCast_add, Int.natCast_mul, Int.natCast_pow, Int.mul_comm]
    rfl
theorem load_c : ∀ i, i < 10 → ¬ 26 * i % 2 ^ 6 + 26 ≤ 64 → i = 2 ∨ i = 4 ∨ i = 7 ∨ i = 9 := by decide
theorem load_v (ws out : Nat) (s : zSt) (hw : ws ≠ out) : ∃ v : Nat → Int64, (∀ i, i < 10 → (v i).toInt = ((rN (s.1 ws) 4 / 2 ^ (26 * i) % 2 ^ 26 : Nat) : Int)) ∧ ∀ i σ, i < 10 → (∀ id j, (id ≠ out ∨ i ≤ j) → σ.1 id j = s.1 id j) → fX1_load_2 ws out i σ = zW σ out i (v i) := by
  refine ⟨fun i => (if 26 * i % 2 ^ 6 + 26 ≤ 64 then zus (s.1 ws (26 * i / 2 ^ 6)) (26 * i % 2 ^ 6) else if 4 ≤ 26 * i / 2 ^ 6 + 1 then zus (s.1 ws (26 * i / 2 ^ 6)) (26 * i % 2 ^ 6) else zus (s.1 ws (26 * i / 2 ^ 6)) (26 * i % 2 ^ 6) ||| zsl (s.1 ws (26 * i / 2 ^ 6 + 1)) (64 - 26 * i % 2 ^ 6)) &&& 67108863, fun i hi => ?_, fun i σ hi h => ?_⟩
  · have hm : (67108863 : Int64).toBitVec.toNat = 2 ^ 26 - 1 := by decide
    have h26 : ∀ x : Int64, (x &&& 67108863).toInt = ((tN x % 2 ^ 26 : Nat) : Int) := fun x => by
      have e := tN_and x 67108863 hm
      have h2 : tN x % 2 ^ 26 < 2 ^ 26 := Nat.mod_lt _ (by decide)
      rw [tN_int, e, if_pos (by omega)]
    show ((if 26 * i % 2 ^ 6 + 26 ≤ 64 then zus (s.1 ws (26 * i / 2 ^ 6)) (26 * i % 2 ^ 6) else if 4 ≤ 26 * i / 2 ^ 6 + 1 then zus (s.1 ws (26 * i / 2 ^ 6)) (26 * i % 2 ^ 6) else zus (s.1 ws (26 * i / 2 ^ 6)) (26 * i % 2 ^ 6) ||| zsl (s.1 ws (26 * i / 2 ^ 6 + 1)) (64 - 26 * i % 2 ^ 6)) &&& 67108863).toInt = _
    rw [h26]
    have hsh : 26 * i % 2 ^ 6 < 64 := by omega
    have h0 := tN_lt (s.1 ws 0)
    have h1 := tN_lt (s.1 ws 1)
    have h2 := tN_lt (s.1 ws 2)
    have h3 := tN_lt (s.1 ws 3)
    have hN := rN_4 (s.1 ws)
    by_cases c1 : 26 * i % 2 ^ 6 + 26 ≤ 64
    · rw [if_pos c1, mq_zus _ hsh]
      congr 1
      exact rN_bits (s.1 ws) (n := 4) (pos := 26 * i) (q := 26) (by omega) c1
    · rw [if_neg c1]
      have hc : i = 2 ∨ i = 4 ∨ i = 7 ∨ i = 9 := load_c i hi c1
      rcases hc with rfl | rfl | rfl | rfl
      · rw [if_neg (by decide)]
        have e1 := mq_zus (s.1 ws 0) (k := 52) (by omega)
        have e2 := mq_zsl (s.1 ws 1) (k := 12) (by omega)
        have e3 := or_l (x := zus (s.1 ws 0) 52) (y := zsl (s.1 ws 1) 12) (k := 12) (c := tN (s.1 ws 1) % 2 ^ 52) (by omega) (by omega)
        show ((tN (zus (s.1 ws 0) 52 ||| zsl (s.1 ws 1) 12) % 2 ^ 26 : Nat) : Int) = _
        rw [e3, e1, hN]
        omega
      · rw [if_neg (by decide)]
        have e1 := mq_zus (s.1 ws 1) (k := 40) (by omega)
        have e2 := mq_zsl (s.1 ws 2) (k := 24) (by omega)
        have e3 := or_l (x := zus (s.1 ws 1) 40) (y := zsl (s.1 ws 2) 24) (k := 24) (c := tN (s.1 ws 2) % 2 ^ 40) (by omega) (by omega)
        show ((tN (zus (s.1 ws 1) 40 ||| zsl (s.1 ws 2) 24) % 2 ^ 26 : Nat) : Int) = _
        rw [e3, e1, hN]
        omega
      · rw [if_neg (by decide)]
        have e1 := mq_zus (s.1 ws 2) (k := 54) (by omega)
        have e2 := mq_zsl (s.1 ws 3) (k := 10) (by omega)
        have e3 := or_l (x := zus (s.1 ws 2) 54) (y := zsl (s.1 ws 3) 10) (k := 10) (c := tN (s.1 ws 3) % 2 ^ 54) (by omega) (by omega)
        show ((tN (zus (s.1 ws 2) 54 ||| zsl (s.1 ws 3) 10) % 2 ^ 26 : Nat) : Int) = _
        rw [e3, e1, hN]
        omega
      · rw [if_pos (by decide)]
        have e1 := mq_zus (s.1 ws 3) (k := 42) (by omega)
        show ((tN (zus (s.1 ws 3) 42) % 2 ^ 26 : Nat) : Int) = _
        rw [e1, hN]
        omega
  · unfold fX1_load_2 fX1_load_a4 fX1_load_a3 fX1_load_a2 fX1_load_a1
    have e : σ.1 ws = s.1 ws := funext fun j => h ws j (Or.inl hw)
    show (if 26 * i % 2 ^ 6 + 26 ≤ 64 then _ else if 4 ≤ 26 * i / 2 ^ 6 + 1 then _ else _) = _
    rw [e]
    dsimp only
    by_cases c1 : 26 * i % 2 ^ 6 + 26 ≤ 64
    · rw [if_pos c1, if_pos c1]
    · rw [if_neg c1, if_neg c1]
      by_cases c2 : 4 ≤ 26 * i / 2 ^ 6 + 1
      · rw [if_pos c2, if_pos c2]
      · rw [if_neg c2, if_neg c2]
theorem vX_load (ws out : Nat) (s : zSt) (hw : ws ≠ out) : zfr [out] s (fX1_load ws out s) ∧ v10 ((fX1_load ws out s).1 out) = ((rN (s.1 ws) 4 % 2 ^ 255 : Nat) : Int) ∧ zrb ((fX1_load ws out s).1 out) 67108863 := by
  obtain ⟨v, hv, hF⟩ := load_v ws out s hw
  have h := zmap0 (F := fX1_load_2 ws out) (s0 := s) out 10 v hF
  have eF : ∀ u, u = ziter (fX1_load_2 ws out) 0 10 s → fX1_load ws out s = zW u out 9 (u.1 out 9 &&& 2097151) := fun u e => by rw [e]; rfl
  generalize hu : ziter (fX1_load_2 ws out) 0 10 s = u at h
  rw [eF u hu.symm]
  obtain ⟨g1, g2⟩ := h
  have hl : ∀ i, i < 10 → (u.1 out i).toInt = ((rN (s.1 ws) 4 / 2 ^ (26 * i) % 2 ^ 26 : Nat) : Int) := fun i hi => by rw [g2 i hi, hv i hi]
  have hm := mq_m21 (u.1 out 9)
  have h9 := hl 9 (by omega)
  have hs : rv 26 (u.1 out) 9 = ((rN (s.1 ws) 4 % 2 ^ (26 * 9) : Nat) : Int) := limbs_sum 26 (fun i => (u.1 out i).toInt) (rN (s.1 ws) 4) 9 (fun i hi => hl i (by omega))
  refine ⟨fun id hid => ?_, ?_, fun i hi => ?_⟩
  · have hne : id ≠ out := fun e => hid (by rw [e]; exact List.mem_singleton.mpr rfl)
    rw [zW_ne _ _ _ hne]
    exact funext fun j => g1 id j (Or.inl hne)
  · rw [zW_at]
    show rv 26 _ (9 + 1) = _
    have e : rv 26 (vp_updL (u.1 out) 9 (u.1 out 9 &&& 2097151)) 9 = rv 26 (u.1 out) 9 := rv_congr (fun i hi => pk_uLn (by omega))
    rw [rv_succ, pk_uLs, e, hs, hm, h9]
    generalize rN (s.1 ws) 4 = N
    omega
  · rw [zW_at]
    by_cases q : i = 9
    · rw [q, pk_uLs, hm]
      omega
    · rw [pk_uLn q, hl i hi]
      have : rN (s.1 ws) 4 / 2 ^ (26 * i) % 2 ^ 26 < 2 ^ 26 := Nat.mod_lt _ (by decide)
      omega
/-- what store does to the four words -/
def gst (e : Nat → Int64) (i : Nat) (r : Nat → Int64) : Nat → Int64 :=
  if 26 * i % 2 ^ 6 + 26 ≤ 64 then vp_updL r (26 * i / 2 ^ 6) (r (26 * i / 2 ^ 6) ||| zsl (e i) (26 * i % 2 ^ 6))
  else if 4 ≤ 26 * i / 2 ^ 6 + 1 then vp_updL r (26 * i / 2 ^ 6) (r (26 * i / 2 ^ 6) ||| zsl (e i) (26 * i % 2 ^ 6))
  else vp_updL (vp_updL r (26 * i / 2 ^ 6) (r (26 * i / 2 ^ 6) ||| zsl (e i) (26 * i % 2 ^ 6))) (26 * i / 2 ^ 6 + 1) (r (26 * i / 2 ^ 6 + 1) ||| zus (e i) (64 - 26 * i % 2 ^ 6))
theorem store_l (ws : Nat) (s : zSt) (hw : ws ≠ 41) : zfr [ws] s (ziter (fX1_store_12 ws) 0 10 s) ∧ (ziter (fX1_store_12 ws) 0 10 s).1 ws = ziter (gst (s.1 41)) 0 10 (s.1 ws) := by
  refine ziter_I (fX1_store_12 ws) (fun i σ => zfr [ws] s σ ∧ σ.1 ws = ziter (gst (s.1 41)) 0 i (s.1 ws)) 10 ?_ 10 0 s (by omega) ⟨zfr.refl, rfl⟩
  intro i σ hi ⟨h1, h2⟩
  have e41 : σ.1 41 = s.1 41 := h1 41 (fun e => hw (List.mem_singleton.mp e).symm)
  have hne : (26 * i / 2 ^ 6 + 1) ≠ 26 * i / 2 ^ 6 := by omega
  have hf : ∀ (x : Nat) (v : Int64) (τ : zSt), zfr [ws] s τ → zfr [ws] s (zW τ ws x v) := fun x v τ hτ id hid => by
    rw [zW_ne _ _ _ (fun e => hid (by rw [e]; exact List.mem_singleton.mpr rfl))]
    exact hτ id hid
  rw [ziter_succ, Nat.zero_add, ← h2]
  unfold fX1_store_12 fX1_store_a4 fX1_store_a3 fX1_store_a2 fX1_store_a1 gst
  show zfr [ws] s (if 26 * i % 2 ^ 6 + 26 ≤ 64 then _ else if 4 ≤ 26 * i / 2 ^ 6 + 1 then _ else _) ∧ (if 26 * i % 2 ^ 6 + 26 ≤ 64 then _ else if 4 ≤ 26 * i / 2 ^ 6 + 1 then _ else _ : zSt).1 ws = _
  by_cases c1 : 26 * i % 2 ^ 6 + 26 ≤ 64
  · rw [if_pos c1, if_pos c1, zW_at, e41]
    exact ⟨hf _ _ _ h1, rfl⟩
  · rw [if_neg c1, if_neg c1]
    by_cases c2 : 4 ≤ 26 * i / 2 ^ 6 + 1
    · rw [if_pos c2, if_pos c2, zW_at, e41]
      exact ⟨hf _ _ _ h1, rfl⟩
    · rw [if_neg c2, if_neg c2, zW_at, zW_at, zW_ne _ _ _ (Ne.symm hw), pk_uLn hne, e41, zW_at]
      exact ⟨hf _ _ _ (hf _ _ _ h1), rfl⟩
theorem gst_4 (e r : Nat → Int64) : ziter (gst e) 0 10 r 0 = ((r 0 ||| zsl (e 0) 0) ||| zsl (e 1) 26) ||| zsl (e 2) 52
    ∧ ziter (gst e) 0 10 r 1 = ((r 1 ||| zus (e 2) 12) ||| zsl (e 3) 14) ||| zsl (e 4) 40
    ∧ ziter (gst e) 0 10 r 2 = (((r 2 ||| zus (e 4) 24) ||| zsl (e 5) 2) ||| zsl (e 6) 28) ||| zsl (e 7) 54
    ∧ ziter (gst e) 0 10 r 3 = ((r 3 ||| zus (e 7) 10) ||| zsl (e 8) 16) ||| zsl (e 9) 42 := by
  refine ⟨?_, ?_, ?_, ?_⟩ <;> simp [ziter, gst, vp_updL]
theorem wd0 (r e0 e1 e2 : Int64) (hr : tN r = 0) (be0 : tN e0 < 67108864) (be1 : tN e1 < 67108864) (be2 : tN e2 < 67108864) : tN (((r ||| zsl e0 0) ||| zsl e1 26) ||| zsl e2 52) = tN e0 + tN e1 * 2 ^ 26 + (tN e2 % 2 ^ 12) * 2 ^ 52 := by
  have s0 := mq_zsl e0 (k := 0) (by omega)
  have o0 := or_l (x := r) (y := zsl e0 0) (k := 0) (c := tN e0) (by omega) (by omega)
  have s1 := mq_zsl e1 (k := 26) (by omega)
  have o1 := or_l (x := (r ||| zsl e0 0)) (y := zsl e1 26) (k := 26) (c := tN e1) (by omega) (by omega)
  have s2 := mq_zsl e2 (k := 52) (by omega)
  have o2 := or_l (x := ((r ||| zsl e0 0) ||| zsl e1 26)) (y := zsl e2 52) (k := 52) (c := (tN e2 % 2 ^ 12)) (by omega) (by omega)
  omega
theorem wd1 (r e2 e3 e4 : Int64) (hr : tN r = 0) (be2 : tN e2 < 67108864) (be3 : tN e3 < 67108864) (be4 : tN e4 < 67108864) : tN (((r ||| zus e2 12) ||| zsl e3 14) ||| zsl e4 40) = tN e2 / 2 ^ 12 + tN e3 * 2 ^ 14 + (tN e4 % 2 ^ 24) * 2 ^ 40 := by
  have s0 := mq_zus e2 (k := 12) (by omega)
  have o0 := or_l (x := r) (y := zus e2 12) (k := 0) (c := tN e2 / 2 ^ 12) (by omega) (by omega)
  have s1 := mq_zsl e3 (k := 14) (by omega)
  have o1 := or_l (x := (r ||| zus e2 12)) (y := zsl e3 14) (k := 14) (c := tN e3) (by omega) (by omega)
  have s2 := mq_zsl e4 (k := 40) (by omega)
  have o2 := or_l (x := ((r ||| zus e2 12) ||| zsl e3 14)) (y := zsl e4 40) (k := 40) (c := (tN e4 % 2 ^ 24)) (by omega) (by omega)
  omega
theorem wd2 (r e4 e5 e6 e7 : Int64) (hr : tN r = 0) (be4 : tN e4 < 67108864) (be5 : tN e5 < 67108864) (be6 : tN e6 < 67108864) (be7 : tN e7 < 67108864) : tN ((((r ||| zus e4 24) ||| zsl e5 2) ||| zsl e6 28) ||| zsl e7 54) = tN e4 / 2 ^ 24 + tN e5 * 2 ^ 2 + tN e6 * 2 ^ 28 + (tN e7 % 2 ^ 10) * 2 ^ 54 := by
  have s0 := mq_zus e4 (k := 24) (by omega)
  have o0 := or_l (x := r) (y := zus e4 24) (k := 0) (c := tN e4 / 2 ^ 24) (by omega) (by omega)
  have s1 := mq_zsl e5 (k := 2) (by omega)
  have o1 := or_l (x := (r ||| zus e4 24)) (y := zsl e5 2) (k := 2) (c := tN e5) (by omega) (by omega)
  have s2 := mq_zsl e6 (k := 28) (by omega)
  have o2 := or_l (x := ((r ||| zus e4 24) ||| zsl e5 2)) (y := zsl e6 28) (k := 28) (c := tN e6) (by omega) (by omega)
  have s3 := mq_zsl e7 (k := 54) (by omega)
  have o3 := or_l (x := (((r ||| zus e4 24) ||| zsl e5 2) ||| zsl e6 28)) (y := zsl e7 54) (k := 54) (c := (tN e7 % 2 ^ 10)) (by omega) (by omega)
  omega
theorem wd3 (r e7 e8 e9 : Int64) (hr : tN r = 0) (be7 : tN e7 < 67108864) (be8 : tN e8 < 67108864) (be9 : tN e9 < 2097152) : tN (((r ||| zus e7 10) ||| zsl e8 16) ||| zsl e9 42) = tN e7 / 2 ^ 10 + tN e8 * 2 ^ 16 + tN e9 * 2 ^ 42 := by
  have s0 := mq_zus e7 (k := 10) (by omega)
  have o0 := or_l (x := r) (y := zus e7 10) (k := 0) (c := tN e7 / 2 ^ 10) (by omega) (by omega)
  have s1 := mq_zsl e8 (k := 16) (by omega)
  have o1 := or_l (x := (r ||| zus e7 10)) (y := zsl e8 16) (k := 16) (c := tN e8) (by omega) (by omega)
  have s2 := mq_zsl e9 (k := 42) (by omega)
  have o2 := or_l (x := ((r ||| zus e7 10) ||| zsl e8 16)) (y := zsl e9 42) (k := 42) (c := tN e9) (by omega) (by omega)
  omega
theorem store_n (e r : Nat → Int64) (h0 : ∀ k, k < 4 → tN (r k) = 0) (he : ∀ i, i < 9 → 0 ≤ (e i).toInt ∧ (e i).toInt < 67108864) (h9 : 0 ≤ (e 9).toInt ∧ (e 9).toInt < 2097152) : (rN (ziter (gst e) 0 10 r) 4 : Int) = v10 e := by
  obtain ⟨g0, g1, g2, g3⟩ := gst_4 e r
  have n0 := tN_pos (he 0 (by omega)).1
  have b0 : tN (e 0) < 67108864 := by have := (he 0 (by omega)).2; omega
  have n1 := tN_pos (he 1 (by omega)).1
  have b1 : tN (e 1) < 67108864 := by have := (he 1 (by omega)).2; omega
  have n2 := tN_pos (he 2 (by omega)).1
  have b2 : tN (e 2) < 67108864 := by have := (he 2 (by omega)).2; omega
  have n3 := tN_pos (he 3 (by omega)).1
  have b3 : tN (e 3) < 67108864 := by have := (he 3 (by omega)).2; omega
  have n4 := tN_pos (he 4 (by omega)).1
  have b4 : tN (e 4) < 67108864 := by have := (he 4 (by omega)).2; omega
  have n5 := tN_pos (he 5 (by omega)).1
  have b5 : tN (e 5) < 67108864 := by have := (he 5 (by omega)).2; omega
  have n6 := tN_pos (he 6 (by omega)).1
  have b6 : tN (e 6) < 67108864 := by have := (he 6 (by omega)).2; omega
  have n7 := tN_pos (he 7 (by omega)).1
  have b7 : tN (e 7) < 67108864 := by have := (he 7 (by omega)).2; omega
  have n8 := tN_pos (he 8 (by omega)).1
  have b8 : tN (e 8) < 67108864 := by have := (he 8 (by omega)).2; omega
  have n9 := tN_pos h9.1
  have b9 : tN (e 9) < 2097152 := by have := h9.2; omega
  have eV : v10 e = (tN (e 0) : Int) * 2 ^ 0 + (tN (e 1) : Int) * 2 ^ 26 + (tN (e 2) : Int) * 2 ^ 52 + (tN (e 3) : Int) * 2 ^ 78 + (tN (e 4) : Int) * 2 ^ 104 + (tN (e 5) : Int) * 2 ^ 130 + (tN (e 6) : Int) * 2 ^ 156 + (tN (e 7) : Int) * 2 ^ 182 + (tN (e 8) : Int) * 2 ^ 208 + (tN (e 9) : Int) * 2 ^ 234 := by
    show rv 26 e 10 = _
    rw [rv_succ, rv_succ, rv_succ, rv_succ, rv_succ, rv_succ, rv_succ, rv_succ, rv_succ, rv_succ, rv_0]
    omega
  have q0 := wd0 (r 0) (e 0) (e 1) (e 2) (h0 0 (by omega)) b0 b1 b2
  have q1 := wd1 (r 1) (e 2) (e 3) (e 4) (h0 1 (by omega)) b2 b3 b4
  have q2 := wd2 (r 2) (e 4) (e 5) (e 6) (e 7) (h0 2 (by omega)) b4 b5 b6 b7
  have q3 := wd3 (r 3) (e 7) (e 8) (e 9) (h0 3 (by omega)) b7 b8 b9
  rw [eV, rN_4, g0, g1, g2, g3, q0, q1, q2, q3]
  clear eV g0 g1 g2 g3 h0 he q0 q1 q2 q3
  omega
theorem vX_store (a ws : Nat) (s : zSt) (hw : ws ≠ 41) (h : zrb (s.1 a) 671088640) : zfr [41, ws] s (fX1_store a ws s) ∧ (rN ((fX1_store a ws s).1 ws) 4 : Int) = v10 (s.1 a) % 57896044618658097711785492504343953926634992332820282019728792003956564819949 := by
  obtain ⟨f1, f2, f3, f4⟩ := vX_exact a s h
  have eF : fX1_store a ws s = ziter (fX1_store_12 ws) 0 10 (fJ7_fill_d0a16 ws 4 0 (fX1_makeExact a s)) := rfl
  rw [eF]
  generalize fX1_makeExact a s = t at f1 f2 f3 f4
  obtain ⟨k1, k2⟩ := fillL ws 4 0 t
  generalize fJ7_fill_d0a16 ws 4 0 t = u at k1 k2
  obtain ⟨g1, g2⟩ := store_l ws u hw
  have e41 : u.1 41 = t.1 41 := funext fun j => k1 41 j (Or.inl (Ne.symm hw))
  refine ⟨?_, ?_⟩
  · have k3 : zfr [ws] t u := zfr1 (fun id hid => funext fun j => k1 id j (Or.inl hid))
    exact (f1.trans k3 (W := [41, ws]) (fun x h => by simp at h ⊢; omega) (fun x h => by simp at h ⊢; omega)).trans g1 (fun _ h => h) (fun x h => by simp at h ⊢; omega)
  · rw [g2, e41, ← f2]
    exact store_n _ _ (fun k hk => by rw [k2 k hk]; decide) f3 f4
theorem rv_nn {w : Nat} {r : Nat → Int64} : ∀ {n : Nat}, (∀ i, i < n → 0 ≤ (r i).toInt) → 0 ≤ rv w r n ∧ (rv w r n = 0 → ∀ i, i < n → (r i).toInt = 0)
  | 0, _ => ⟨Int.le_refl 0, fun _ i hi => absurd hi (Nat.not_lt_zero i)⟩
  | n + 1, h => by
    obtain ⟨h1, h2⟩ := rv_nn (w := w) (r := r) (n := n) (fun i hi => h i (by omega))
    have h3 := h n (by omega)
    have h4 := Int.mul_nonneg h3 (Int.le_of_lt (zpw0 (w * n)))
    rw [rv_succ]
    refine ⟨by omega, fun e i hi => ?_⟩
    by_cases q : i = n
    · subst q
      have e2 : (r i).toInt * 2 ^ (w * i) = 0 := by omega
      rcases Int.mul_eq_zero.mp e2 with e3 | e3
      · exact e3
      · have := zpw0 (w * i)
        omega
    · exact h2 (by omega) i (by omega)
theorem or_0 (x y : Int64) : x ||| y = 0 ↔ x = 0 ∧ y = 0 := by
  rw [← Int64.toBitVec_inj, Int64.toBitVec_or, ← Int64.toBitVec_inj, ← Int64.toBitVec_inj]
  exact BitVec.or_eq_zero_iff
theorem isNothing_eq (a : Nat) (s : zSt) (h : ∀ i, i < 10 → 0 ≤ (s.1 a i).toInt) : vX1_isNothing a s = decide (v10 (s.1 a) = 0) := by
  have hO : ziter (fX1_isNothing_4 a s) 0 10 0 = 0 ↔ ∀ i, i < 10 → s.1 a i = 0 := by
    refine ziter_I (fX1_isNothing_4 a s) (fun i x => x = 0 ↔ ∀ j, j < i → s.1 a j = 0) 10 ?_ 10 0 0 (by omega) ⟨fun _ j hj => absurd hj (Nat.not_lt_zero j), fun _ => rfl⟩
    intro i x hi hx
    show x ||| s.1 a i = 0 ↔ _
    rw [or_0, hx]
    refine ⟨fun q j hj => ?_, fun q => ⟨fun j hj => q j (by omega), q i (by omega)⟩⟩
    by_cases e : j = i
    · rw [e]; exact q.2
    · exact q.1 j (by omega)
  have hV : v10 (s.1 a) = 0 ↔ ∀ i, i < 10 → s.1 a i = 0 := by
    refine ⟨fun e i hi => Int64.toInt_inj.mp ((rv_nn h).2 e i hi), fun q => ?_⟩
    show rv 26 (s.1 a) 10 = 0
    rw [rv_congr (r' := fun _ => 0) q]
    decide
  unfold vX1_isNothing fX1_isNothing_a1 fX1_isNothing_a2
  show (if ¬ lg_cmp (ziter (fX1_isNothing_4 a s) 0 10 0) 0 = 0 then false else true) = _
  by_cases e : v10 (s.1 a) = 0
  · rw [if_neg (fun q => q ((lg_cmp_eq _ _).mpr (hO.mpr (hV.mp e)))), decide_eq_true e]
  · rw [if_pos (fun q => e (hV.mpr (hO.mp ((lg_cmp_eq _ _).mp q)))), decide_eq_false e]
theorem zex_nn {r : Nat → Int64} {T : Int} (h : zex r T) : ∀ i, i < 10 → 0 ≤ (r i).toInt := fun i hi => by
  by_cases q : i = 9
  · rw [q]; exact h.2.2.1
  · exact (h.2.1 i (by omega)).1
theorem vX_isZero (a : Nat) (s : zSt) (h : zrb (s.1 a) 671088640) : zfr [41] s (zsnd (fX1_isZero a s)) ∧ zfst (fX1_isZero a s) = decide (v10 (s.1 a) % 57896044618658097711785492504343953926634992332820282019728792003956564819949 = 0) := by
  obtain ⟨f1, f2⟩ := vX_exact a s h
  refine ⟨f1, ?_⟩
  show vX1_isNothing 41 (fX1_makeExact a s) = _
  rw [isNothing_eq 41 _ (zex_nn f2), f2.1]
theorem vX_areSame (a b : Nat) (s : zSt) {A B : Int} (hA : zrb (s.1 a) A) (hB : zrb (s.1 b) B) (h : A + B ≤ 671088640) : zfr [41, 42] s (zsnd (fX1_areSame a b s)) ∧ zfst (fX1_areSame a b s) = decide ((v10 (s.1 a) - v10 (s.1 b)) % 57896044618658097711785492504343953926634992332820282019728792003956564819949 = 0) := by
  obtain ⟨g1, g2, g3⟩ := vX_sub a b 42 s hA hB (by omega)
  show zfr [41, 42] s (fX1_makeExact 42 (fX1_subtract a b 42 s)) ∧ vX1_isNothing 41 (fX1_makeExact 42 (fX1_subtract a b 42 s)) = _
  generalize fX1_subtract a b 42 s = t at g1 g2 g3
  obtain ⟨f1, f2⟩ := vX_exact 42 t (zrb_mono g2 h)
  rw [isNothing_eq 41 _ (zex_nn f2), f2.1, g3]
  exact ⟨g1.trans f1 (fun x h => by simp at h ⊢; omega) (fun x h => by simp at h ⊢; omega), rfl⟩
theorem vX_isOdd (a : Nat) (s : zSt) (h : zrb (s.1 a) 671088640) : zfr [41] s (zsnd (fX1_isOdd a s)) ∧ zfst (fX1_isOdd a s) = decide (v10 (s.1 a) % 57896044618658097711785492504343953926634992332820282019728792003956564819949 % 2 = 1) := by
  obtain ⟨f1, f2⟩ := vX_exact a s h
  have hm := mq_m1 ((fX1_makeExact a s).1 41 0)
  have hlow : ∃ k, v10 ((fX1_makeExact a s).1 41) = ((fX1_makeExact a s).1 41 0).toInt + 2 ^ 26 * k := zlow 26 (fun i => ((fX1_makeExact a s).1 41 i).toInt) 9
  obtain ⟨k, hk⟩ := hlow
  rw [← f2.1]
  have e1 : (1 : Int64).toInt = 1 := by decide
  have hx : (lg_cmp ((fX1_makeExact a s).1 41 0 &&& 1) 1 = 0) ↔ v10 ((fX1_makeExact a s).1 41) % 2 = 1 := by
    rw [lg_cmp_eq, ← Int64.toInt_inj, hm, e1, hk]
    omega
  unfold fX1_isOdd fX1_isOdd_a1 fX1_isOdd_a2
  show zfr [41] s (zsnd (if ¬ lg_cmp ((fX1_makeExact a s).1 41 0 &&& 1) 1 = 0 then (false, fX1_makeExact a s) else (true, fX1_makeExact a s))) ∧ zfst (if ¬ lg_cmp ((fX1_makeExact a s).1 41 0 &&& 1) 1 = 0 then (false, fX1_makeExact a s) else (true, fX1_makeExact a s)) = _
  by_cases e : v10 ((fX1_makeExact a s).1 41) % 2 = 1
  · rw [if_neg (fun q => q (hx.mpr e)), decide_eq_true e]
    exact ⟨f1, rfl⟩
  · rw [if_pos (fun q => e (hx.mp q)), decide_eq_false e]
    exact ⟨f1, rfl⟩
theorem vX_become (a : Nat) (v : Int64) (s : zSt) (hv : -67108864 ≤ v.toInt ∧ v.toInt ≤ 67108864) : zfr [a] s (fX1_become a v s) ∧ v10 ((fX1_become a v s).1 a) = v.toInt ∧ zrb ((fX1_become a v s).1 a) 67108864 := by
  have eF : fX1_become a v s = zW (fJ7_fill_d0a16 a 10 0 s) a 0 v := rfl
  obtain ⟨k1, k2⟩ := fillL a 10 0 s
  rw [eF]
  generalize fJ7_fill_d0a16 a 10 0 s = u at k1 k2
  have z0 : (0 : Int64).toInt = 0 := by decide
  refine ⟨fun id hid => ?_, ?_, fun i hi => ?_⟩
  · have hne : id ≠ a := fun e => hid (by rw [e]; exact List.mem_singleton.mpr rfl)
    rw [zW_ne _ _ _ hne]
    exact funext fun j => k1 id j (Or.inl hne)
  · rw [zW_at]
    show rv 26 _ 10 = _
    rw [rv_upd (by omega), k2 0 (by omega), z0, rv_congr (r' := fun _ => 0) k2]
    have : rv 26 (fun _ => (0 : Int64)) 10 = 0 := by decide
    rw [this]
    omega
  · rw [zW_at]
    by_cases q : i = 0
    · rw [q, pk_uLs]; exact hv
    · rw [pk_uLn q, k2 i hi, z0]; omega
