/-! the roots' bits: all steps -/
def bpq (q : Nat) (third : Bool) : Nat → Nat → Nat
  | 0, r => r
  | j + 1, r => bpq q third j (if (bif third then (r + 2 ^ j) ^ 3 / 2 ^ 192 else (r + 2 ^ j) ^ 2 / 2 ^ 128) < q then r + 2 ^ j else r)
def bpw (q : Nat) (third : Bool) : Nat := bpq q third 69 0 % 18446744073709551616
/-- with j bits left the row of roots holds r -/
def bpI (q : Nat) (third : Bool) (s : zSt) (j : Nat) (τ : zSt) : Prop := ∃ r : Nat, bpq q third j r = bpq q third 69 0 ∧ rv 16 (τ.1 7) 5 = (r : Int) ∧ r + 2 ^ j ≤ 2 ^ 69 ∧ j ≤ 69 ∧ (∀ k, k < 5 → 0 ≤ (τ.1 7 k).toInt ∧ (τ.1 7 k).toInt ≤ 65535) ∧ (∀ k, k < 5 → ∀ e, e ≤ 16 → 16 * k + e ≤ j → tN (τ.1 7 k) % 2 ^ e = 0) ∧ ∀ id, id ≠ 7 → id ≠ 8 → id ≠ 9 → τ.1 id = s.1 id
theorem cmp_q {x : Int64} {q : Nat} (hq : q < 1000) {v : Nat} (h : x.toInt = (v : Int)) : lg_cmp x ((nI q).toInt64) < 0 ↔ v < q := by
  rw [lg_cmp_lt, nI_l (by omega), Int64.lt_iff_toInt_lt, h, lN_toInt (by omega)]
  omega
theorem c2_lt {c : Nat} (h : c < 2 ^ 69) : c ^ 2 < 2 ^ (16 * (8 + 1)) := Nat.lt_of_lt_of_le (Nat.pow_lt_pow_left h (by decide)) (by decide +kernel)
theorem c3_lt {c : Nat} (h : c < 2 ^ 69) : c ^ 3 < 2 ^ (16 * (12 + 1)) := Nat.lt_of_lt_of_le (Nat.pow_lt_pow_left h (by decide)) (by decide +kernel)
theorem zsl_0 : zsl 0 16 = 0 ∧ zsl 0 32 = 0 ∧ zsl 0 48 = 0 := by decide
set_option maxHeartbeats 1000000 in
theorem bp_step {q : Nat} (hq : q < 1000) (third : Bool) (s : zSt) (j : Nat) (τ : zSt) (h : bpI q third s (j + 1) τ) : bpI q third s j (fX10_behindPoint_24 q third j τ) := by
  obtain ⟨r, h1, h2, h3, h4, h5, h6, h7⟩ := h
  have hk : j / 2 ^ 4 < 5 := by omega
  have hb : j % 2 ^ 4 < 16 := by omega
  have hj : 16 * (j / 2 ^ 4) + j % 2 ^ 4 = j := by omega
  have hx0 := h5 _ hk
  have hx1 := h6 _ hk (j % 2 ^ 4 + 1) (by omega) (by omega)
  unfold fX10_behindPoint_24
  dsimp only
  generalize hKn : j / 2 ^ 4 = kk at hk hj hx0 hx1 ⊢
  generalize hBn : j % 2 ^ 4 = b at hb hj hx1 ⊢
  obtain ⟨y1, y2, y3⟩ := bt_or hb hx0 hx1
  have hclr := bt_clr (bt_and (bt_1 b hb).1 hx1)
  generalize hy : τ.1 7 kk ||| zsl 1 b = y at y1 y2 y3 hclr ⊢
  have row : (zW τ 7 kk y).1 7 = vp_updL (τ.1 7) kk y := zW_at _ _ _ _
  have hr12 : ∀ i, i < 5 → 0 ≤ ((zW τ 7 kk y).1 7 i).toInt ∧ ((zW τ 7 kk y).1 7 i).toInt ≤ 65535 := fun i hi => by
    rw [row]
    by_cases e : i = kk
    · rw [e, pk_uLs]; exact y3
    · rw [pk_uLn e]; exact h5 i hi
  have hv12 : rv 16 ((zW τ 7 kk y).1 7) 5 = ((r + 2 ^ j : Nat) : Int) := by
    rw [row, rv_upd hk, h2, y2, Int.natCast_add, ← hj, Nat.add_comm (16 * kk), Nat.pow_add, Int.natCast_mul, Int.natCast_pow 2 (16 * kk)]
    rw [show (τ.1 7 kk).toInt + ((2 ^ b : Nat) : Int) - (τ.1 7 kk).toInt = ((2 ^ b : Nat) : Int) by omega]
    rfl
  have hc : r + 2 ^ j < 2 ^ 69 := by
    have : (2 : Nat) ^ (j + 1) = 2 * 2 ^ j := by rw [Nat.pow_succ, Nat.mul_comm]
    have : 0 < (2 : Nat) ^ j := Nat.pow_pos (by decide)
    omega
  obtain ⟨p1, p2, -, p4, -, -, p7, -⟩ := powers_v hr12
  obtain ⟨n1, n2⟩ := powers_n hr12
  have p0 : (fX10_powers (zW τ 7 kk y)).1 7 = vp_updL (τ.1 7) kk y := (p1 7 (by decide) (by decide)).trans row
  have pf : ∀ id, id ≠ 7 → id ≠ 8 → id ≠ 9 → (fX10_powers (zW τ 7 kk y)).1 id = s.1 id := fun id q1 q2 q3 => by rw [p1 id q2 q3, zW_ne _ _ _ q1, h7 id q1 q2 q3]
  rw [hv12] at n1 n2
  generalize hcn : r + 2 ^ j = c at hc n1 n2 hv12
  generalize fX10_powers (zW τ 7 kk y) = t at p0 p4 p7 pf n1 n2 ⊢
  have e2 : (c : Int) * c = ((c ^ 2 : Nat) : Int) := by rw [Int.natCast_pow, Int.pow_succ, Int.pow_succ, Int.pow_zero, Int.one_mul]
  have e3 : (c : Int) * c * c = ((c ^ 3 : Nat) : Int) := by rw [Int.natCast_pow, Int.pow_succ, Int.pow_succ, Int.pow_succ, Int.pow_zero, Int.one_mul]
  rw [e2] at n1
  rw [e3] at n2
  obtain ⟨s1, s2⟩ := top_v (k := 8) (by decide) p4 n1 (c2_lt hc)
  obtain ⟨u1, u2⟩ := top_v (k := 12) (by decide) p7 n2 (c3_lt hc)
  have x16 : (t.1 8 8 + zsl (t.1 8 9) 16) + zsl (t.1 8 10) 32 = t.1 8 8 := by
    rw [s1 9 (by decide) (by decide), s1 10 (by decide) (by decide), zsl_0.1, zsl_0.2.1, Int64.add_zero, Int64.add_zero]
  have x26 : ((t.1 9 12 + zsl (t.1 9 13) 16) + zsl (t.1 9 14) 32) + zsl (t.1 9 15) 48 = t.1 9 12 := by
    rw [u1 13 (by decide) (by decide), u1 14 (by decide) (by decide), u1 15 (by decide) (by decide), zsl_0.1, zsl_0.2.1, zsl_0.2.2, Int64.add_zero, Int64.add_zero, Int64.add_zero]
  have keep : bpq q third j c = bpq q third 69 0 → bpI q third s j t := fun hb2 => by
    refine ⟨c, hb2, ?_, ?_, by omega, fun k hk2 => ?_, fun k hk2 e he hke => ?_, pf⟩
    · rw [p0]
      rw [row] at hv12
      exact hv12
    · have : (2 : Nat) ^ (j + 1) = 2 * 2 ^ j := by rw [Nat.pow_succ, Nat.mul_comm]
      omega
    · have := hr12 k hk2
      rw [row] at this
      rw [p0]
      exact this
    · rw [p0]
      by_cases q1 : k = kk
      · rw [q1, pk_uLs, y1]
        rw [q1] at hke
        have a1 := h6 kk hk e he (by omega)
        have a2 : (2 : Nat) ^ b % 2 ^ e = 0 := Nat.mod_eq_zero_of_dvd (Nat.pow_dvd_pow 2 (by omega))
        rw [Nat.add_mod, a1, a2]
        exact Nat.zero_mod _
      · rw [pk_uLn q1]
        exact h6 k hk2 e he (by omega)
  have clear : bpq q third j r = bpq q third 69 0 → bpI q third s j (zW t 7 kk ((t.1 7 kk) &&& (zsl 1 b ^^^ (-1)))) := fun hb2 => by
    have er : (zW t 7 kk ((t.1 7 kk) &&& (zsl 1 b ^^^ (-1)))).1 7 = τ.1 7 := by
      rw [zW_at, p0, pk_uLs]
      have e9 : y &&& (zsl 1 b ^^^ (-1)) = τ.1 7 kk := hclr
      rw [e9]
      funext i
      by_cases q1 : i = kk
      · rw [q1, pk_uLs]
      · rw [pk_uLn q1, pk_uLn q1]
    refine ⟨r, hb2, by rw [er]; exact h2, ?_, by omega, fun k hk2 => by rw [er]; exact h5 k hk2, fun k hk2 e he hke => by rw [er]; exact h6 k hk2 e he (by omega), fun id q1 q2 q3 => by rw [zW_ne _ _ _ q1]; exact pf id q1 q2 q3⟩
    have : (2 : Nat) ^ (j + 1) = 2 * 2 ^ j := by rw [Nat.pow_succ, Nat.mul_comm]
    omega
  have hstep : bpq q third (j + 1) r = bpq q third j (if (bif third then c ^ 3 / 2 ^ 192 else c ^ 2 / 2 ^ 128) < q then c else r) := by
    show bpq q third j (if (bif third then (r + 2 ^ j) ^ 3 / 2 ^ 192 else (r + 2 ^ j) ^ 2 / 2 ^ 128) < q then r + 2 ^ j else r) = _
    rw [hcn]
  rw [hstep] at h1
  clear hstep hcn
  cases third with
  | false =>
    rw [cond_false]
    unfold fX10_behindPoint_a3 fX10_behindPoint_a1 fX10_behindPoint_a2
    dsimp only
    rw [x16, hKn, hBn]
    have hcmp := cmp_q hq s2
    by_cases w : c ^ 2 / 2 ^ (16 * 8) < q
    · rw [if_pos (hcmp.mpr w)]
      refine keep ?_
      rw [if_pos (show (bif false then c ^ 3 / 2 ^ 192 else c ^ 2 / 2 ^ 128) < q from w)] at h1
      exact h1
    · rw [if_neg (fun z => w (hcmp.mp z))]
      refine clear ?_
      rw [if_neg (show ¬ (bif false then c ^ 3 / 2 ^ 192 else c ^ 2 / 2 ^ 128) < q from w)] at h1
      exact h1
  | true =>
    rw [cond_true]
    unfold fX10_behindPoint_a6 fX10_behindPoint_a4 fX10_behindPoint_a5
    dsimp only
    rw [x26, hKn, hBn]
    have hcmp := cmp_q hq u2
    by_cases w : c ^ 3 / 2 ^ (16 * 12) < q
    · rw [if_pos (hcmp.mpr w)]
      refine keep ?_
      rw [if_pos (show (bif true then c ^ 3 / 2 ^ 192 else c ^ 2 / 2 ^ 128) < q from w)] at h1
      exact h1
    · rw [if_neg (fun z => w (hcmp.mp z))]
      refine clear ?_
      rw [if_neg (show ¬ (bif true then c ^ 3 / 2 ^ 192 else c ^ 2 / 2 ^ 128) < q from w)] at h1
      exact h1
theorem bp_done {q : Nat} (hq : q < 1000) (third : Bool) (s : zSt) : tN (zfst (fX10_behindPoint q third s)) = bpw q third ∧ ∀ id, id ≠ 7 → id ≠ 8 → id ≠ 9 → (zsnd (fX10_behindPoint q third s)).1 id = s.1 id := by
  have eF : fX10_behindPoint q third s = ((((((zdown (fX10_behindPoint_24 q third) 69 (ziter fX10_behindPoint_2 0 6 s)).1 7 0) ||| (zsl ((zdown (fX10_behindPoint_24 q third) 69 (ziter fX10_behindPoint_2 0 6 s)).1 7 1) 16)) ||| (zsl ((zdown (fX10_behindPoint_24 q third) 69 (ziter fX10_behindPoint_2 0 6 s)).1 7 2) 32)) ||| (zsl ((zdown (fX10_behindPoint_24 q third) 69 (ziter fX10_behindPoint_2 0 6 s)).1 7 3) 48)), zdown (fX10_behindPoint_24 q third) 69 (ziter fX10_behindPoint_2 0 6 s)) := rfl
  rw [eF]
  clear eF
  simp only [zfst_mk, zsnd_mk]
  have z := zmap0 (F := fX10_behindPoint_2) (s0 := s) 7 6 (fun _ => 0) (fun i σ _ _ => rfl)
  generalize ziter fX10_behindPoint_2 0 6 s = u at z ⊢
  have h0 : bpI q third s 69 u := by
    have e0 : ∀ k, k < 5 → u.1 7 k = 0 := fun k hk => z.2 k (by omega)
    refine ⟨0, rfl, ?_, by decide, by decide, fun k hk => ?_, fun k hk e _ _ => ?_, fun id q1 _ _ => funext fun j => z.1 id j (by omega)⟩
    · rw [rv_congr (r' := fun _ => 0) e0, rv_z]
      rfl
    · rw [e0 k hk]
      decide
    · rw [e0 k hk]
      exact Nat.zero_mod _
  have H := zdown_I (fX10_behindPoint_24 q third) (bpI q third s) (fun j x hx => bp_step hq third s j x hx) 69 u h0
  generalize zdown (fX10_behindPoint_24 q third) 69 u = w at H ⊢
  obtain ⟨r, h1, h2, h3, h4, h5, h6, h7⟩ := H
  refine ⟨?_, h7⟩
  have hw := word16 (a := w.1 7 0) (b := w.1 7 1) (c := w.1 7 2) (d := w.1 7 3) (by have := h5 0 (by decide); omega) (by have := h5 1 (by decide); omega) (by have := h5 2 (by decide); omega) (by have := h5 3 (by decide); omega)
  have hr : (r : Int) = (w.1 7 0).toInt + (w.1 7 1).toInt * 65536 + (w.1 7 2).toInt * 4294967296 + (w.1 7 3).toInt * 281474976710656 + (w.1 7 4).toInt * 18446744073709551616 := by
    rw [← h2]
    rw [rv_succ, rv_succ, rv_succ, rv_succ, rv_succ, rv_0]
    have a0 : (2 : Int) ^ (16 * 0) = 1 := by decide
    have a1 : (2 : Int) ^ (16 * 1) = 65536 := by decide
    have a2 : (2 : Int) ^ (16 * 2) = 4294967296 := by decide
    have a3 : (2 : Int) ^ (16 * 3) = 281474976710656 := by decide
    have a4 : (2 : Int) ^ (16 * 4) = 18446744073709551616 := by decide
    rw [a0, a1, a2, a3, a4]
    omega
  have hb : bpw q third = r % 18446744073709551616 := by
    unfold bpw
    rw [← h1]
    rfl
  rw [hb]
  have := h5 0 (by decide)
  have := h5 1 (by decide)
  have := h5 2 (by decide)
  have := h5 3 (by decide)
  have := h5 4 (by decide)
  omega
