/-! rows of words, the lowest first -/
def rN (r : Nat → Int64) : Nat → Nat
  | 0 => 0
  | n + 1 => rN r n + tN (r n) * 2 ^ (64 * n)
theorem rN_succ (r : Nat → Int64) (n : Nat) : rN r (n + 1) = rN r n + tN (r n) * 2 ^ (64 * n) := rfl
theorem rN_congr {r r' : Nat → Int64} : ∀ {n : Nat}, (∀ i, i < n → r i = r' i) → rN r n = rN r' n
  | 0, _ => rfl
  | n + 1, h => by rw [rN_succ, rN_succ, rN_congr (n := n) (fun i hi => h i (by omega)), h n (by omega)]
theorem npw (n : Nat) : 2 ^ (64 * (n + 1)) = 18446744073709551616 * 2 ^ (64 * n) := by
  rw [Nat.mul_succ, Nat.pow_add, Nat.mul_comm]
theorem rN_lt (r : Nat → Int64) : ∀ n, rN r n < 2 ^ (64 * n)
  | 0 => by show 0 < 2 ^ (64 * 0); exact Nat.two_pow_pos _
  | n + 1 => by
    have h1 := rN_lt r n
    have h2 := tN_lt (r n)
    have h3 : tN (r n) * 2 ^ (64 * n) ≤ 18446744073709551615 * 2 ^ (64 * n) := Nat.mul_le_mul_right _ (by omega)
    rw [rN_succ, npw]
    omega
theorem rN_word (r : Nat → Int64) (j : Nat) : ∀ n, j < n → rN r n / 2 ^ (64 * j) % 18446744073709551616 = tN (r j)
  | 0, h => absurd h (Nat.not_lt_zero j)
  | n + 1, h => by
    rw [rN_succ]
    have hp : 0 < 2 ^ (64 * j) := Nat.two_pow_pos _
    by_cases e : j = n
    · subst e
      rw [Nat.add_mul_div_right _ _ hp, Nat.div_eq_of_lt (rN_lt r j), Nat.zero_add, Nat.mod_eq_of_lt (tN_lt _)]
    · have ih := rN_word r j n (by omega)
      have e2 : tN (r n) * 2 ^ (64 * n) = (tN (r n) * 2 ^ (64 * (n - j - 1)) * 18446744073709551616) * 2 ^ (64 * j) := by
        rw [show (64 * n) = 64 * (n - j - 1) + 64 + 64 * j by omega, Nat.pow_add, Nat.pow_add, ← Nat.mul_assoc, ← Nat.mul_assoc]
      rw [e2, Nat.add_mul_div_right _ _ hp, Nat.add_mul_mod_self_right]
      exact ih
theorem rN_0 (r : Nat → Int64) : rN r 0 = 0 := rfl
theorem rN_4 (r : Nat → Int64) : rN r 4 = tN (r 0) + tN (r 1) * 18446744073709551616 + tN (r 2) * 340282366920938463463374607431768211456 + tN (r 3) * 6277101735386680763835789423207666416102355444464034512896 := by
  rw [rN_succ, rN_succ, rN_succ, rN_succ, rN_0]
  omega
/-- a field of q bits within a word -/
theorem rN_bits (r : Nat → Int64) {n pos q : Nat} (h : pos < 64 * n) (hq : pos % 64 + q ≤ 64) : tN (r (pos / 64)) / 2 ^ (pos % 64) % 2 ^ q = rN r n / 2 ^ pos % 2 ^ q := by
  rw [← rN_word r (pos / 64) n (by omega)]
  have e1 : (18446744073709551616 : Nat) = 2 ^ (pos % 64) * 2 ^ (64 - pos % 64) := by
    rw [← Nat.pow_add, show pos % 64 + (64 - pos % 64) = 64 by omega]
  have e2 : rN r n / 2 ^ pos = rN r n / 2 ^ (64 * (pos / 64)) / 2 ^ (pos % 64) := by
    rw [Nat.div_div_eq_div_mul, ← Nat.pow_add, show 64 * (pos / 64) + pos % 64 = pos by omega]
  rw [e2]
  generalize rN r n / 2 ^ (64 * (pos / 64)) = X
  rw [e1, Nat.mod_mul_right_div_self, Nat.mod_mod_of_dvd]
  exact Nat.pow_dvd_pow 2 (by omega)
theorem tN_i32 (x : Int64) : x.toInt32.toBitVec.toNat = tN x % 4294967296 := by
  rw [Int64.toBitVec_toInt32, BitVec.signExtend_eq_setWidth_of_le _ (by decide), BitVec.toNat_setWidth]
  rfl
theorem vX8_bit_eq (row k i n : Nat) (s : zSt) (h : i < 64 * n) : vX8_bit row k i s = rN (s.1 row) n / 2 ^ i % 2 := by
  unfold vX8_bit
  rw [tN_i32, mq_zus _ (show i % 2 ^ 6 < 64 by omega), show 2 ^ 6 = 64 from rfl, show 2 ^ 1 = 2 from rfl, Nat.mod_mod_of_dvd _ (show 2 ∣ 4294967296 by decide)]
  exact rN_bits (s.1 row) (q := 1) h (by omega)
theorem vX8_nibble_eq (row i n : Nat) (s : zSt) (h : i < 16 * n) : vX8_nibble row i s = rN (s.1 row) n / 2 ^ (4 * i) % 16 := by
  unfold vX8_nibble
  rw [tN_i32, mq_zus _ (show 4 * (i % 2 ^ 4) < 64 by omega), show 2 ^ 4 = 16 from rfl, Nat.mod_mod_of_dvd _ (show 16 ∣ 4294967296 by decide)]
  have e := rN_bits (s.1 row) (n := n) (pos := 4 * i) (q := 4) (by omega) (by omega)
  rw [show 4 * i / 64 = i / 16 by omega, show 4 * i % 64 = 4 * (i % 16) by omega] at e
  exact e
theorem vX10_bit_eq (p i : Nat) (s : zSt) (h : i < 256) : vX10_bit p i s = rN (fun j => s.1 4 (p + j)) 4 / 2 ^ i % 2 := by
  unfold vX10_bit
  rw [tN_i32, mq_zus _ (show i % 2 ^ 6 < 64 by omega), show 2 ^ 6 = 64 from rfl, show 2 ^ 1 = 2 from rfl, Nat.mod_mod_of_dvd _ (show 2 ∣ 4294967296 by decide)]
  exact rN_bits (fun j => s.1 4 (p + j)) (n := 4) (q := 1) (by omega) (by omega)
/-- the order of words without a sign -/
theorem tN_min (x : Int64) : (x ^^^ (-9223372036854775808)).toInt = (tN x : Int) - 9223372036854775808 := by
  have h0 := tN_lt x
  have h1 : tN (x ^^^ (-9223372036854775808)) = tN x ^^^ 2 ^ 63 := tN_xor _ _
  have h2 : (tN x ^^^ 2 ^ 63) % 2 ^ 63 = tN x % 2 ^ 63 := by rw [Nat.xor_mod_two_pow, Nat.mod_self, Nat.xor_zero]
  have h3 : (tN x ^^^ 2 ^ 63) / 2 ^ 63 = (tN x / 2 ^ 63) ^^^ 1 := by rw [Nat.xor_div_two_pow, Nat.div_self (Nat.two_pow_pos 63)]
  have h4 : tN x / 2 ^ 63 = 0 ∨ tN x / 2 ^ 63 = 1 := by omega
  rw [tN_int, h1]
  generalize tN x ^^^ 2 ^ 63 = t at h1 h2 h3
  rcases h4 with h4 | h4
  · rw [h4] at h3
    have h3 : t / 2 ^ 63 = 1 := h3
    rw [if_neg (by omega)]
    omega
  · rw [h4] at h3
    have h3 : t / 2 ^ 63 = 0 := h3
    rw [if_pos (by omega)]
    omega
theorem ucmp_ge (x y : Int64) : 0 ≤ lg_cmp (x ^^^ (-9223372036854775808)) (y ^^^ (-9223372036854775808)) ↔ tN y ≤ tN x := by
  rw [lg_cmp_ge, Int64.le_iff_toInt_le, tN_min, tN_min]
  omega
theorem ucmp_eq (x y : Int64) : lg_cmp x y = 0 ↔ tN x = tN y := by
  rw [lg_cmp_eq]
  exact ⟨fun h => by rw [h], tN_inj⟩
def cmp3 (a b : Nat) : Int32 := if a = b then nI 0 else if b < a then nI 1 else (-1 : Int32)
theorem cmp3_lt {a b : Nat} : cmp3 a b < 0 ↔ a < b := by
  unfold cmp3
  by_cases h : a = b
  · rw [if_pos h]
    exact ⟨fun q => absurd q (by decide), fun q => absurd q (by omega)⟩
  · rw [if_neg h]
    by_cases h2 : b < a
    · rw [if_pos h2]
      exact ⟨fun q => absurd q (by decide), fun q => absurd q (by omega)⟩
    · rw [if_neg h2]
      exact ⟨fun _ => by omega, fun _ => by decide⟩
theorem cmp3_ge {a b : Nat} : 0 ≤ cmp3 a b ↔ b ≤ a := by
  have h := @cmp3_lt a b
  rw [← Int32.not_lt, h]
  omega
theorem cmp3_eq {a b : Nat} : cmp3 a b = 0 ↔ a = b := by
  unfold cmp3
  by_cases h : a = b
  · rw [if_pos h]
    exact ⟨fun _ => h, fun _ => rfl⟩
  · rw [if_neg h]
    by_cases h2 : b < a
    · rw [if_pos h2]
      exact ⟨fun q => absurd q (by decide), fun q => absurd q h⟩
    · rw [if_neg h2]
      exact ⟨fun q => absurd q (by decide), fun q => absurd q h⟩
theorem cmp3_w {a0 a1 a2 a3 b0 b1 b2 b3 : Int64} : cmp3 (tN a0 + tN a1 * 18446744073709551616 + tN a2 * 340282366920938463463374607431768211456 + tN a3 * 6277101735386680763835789423207666416102355444464034512896) (tN b0 + tN b1 * 18446744073709551616 + tN b2 * 340282366920938463463374607431768211456 + tN b3 * 6277101735386680763835789423207666416102355444464034512896)
    = if tN a3 = tN b3 then (if tN a2 = tN b2 then (if tN a1 = tN b1 then (if tN a0 = tN b0 then nI 0 else if tN b0 ≤ tN a0 then nI 1 else -1) else if tN b1 ≤ tN a1 then nI 1 else -1) else if tN b2 ≤ tN a2 then nI 1 else -1) else if tN b3 ≤ tN a3 then nI 1 else -1 := by
  have := tN_lt a0
  have := tN_lt a1
  have := tN_lt a2
  have := tN_lt a3
  have := tN_lt b0
  have := tN_lt b1
  have := tN_lt b2
  have := tN_lt b3
  unfold cmp3
  by_cases h3 : tN a3 = tN b3
  · rw [if_pos h3]
    by_cases h2 : tN a2 = tN b2
    · rw [if_pos h2]
      by_cases h1 : tN a1 = tN b1
      · rw [if_pos h1]
        by_cases h0 : tN a0 = tN b0
        · rw [if_pos h0, if_pos (by omega)]
        · rw [if_neg h0, if_neg (by omega)]
          by_cases h : tN b0 ≤ tN a0
          · rw [if_pos h, if_pos (by omega)]
          · rw [if_neg h, if_neg (by omega)]
      · rw [if_neg h1, if_neg (by omega)]
        by_cases h : tN b1 ≤ tN a1
        · rw [if_pos h, if_pos (by omega)]
        · rw [if_neg h, if_neg (by omega)]
    · rw [if_neg h2, if_neg (by omega)]
      by_cases h : tN b2 ≤ tN a2
      · rw [if_pos h, if_pos (by omega)]
      · rw [if_neg h, if_neg (by omega)]
  · rw [if_neg h3, if_neg (by omega)]
    by_cases h : tN b3 ≤ tN a3
    · rw [if_pos h, if_pos (by omega)]
    · rw [if_neg h, if_neg (by omega)]
theorem vX8_order_eq (a b : Nat) (s : zSt) : vX8_order a b s = cmp3 (rN (s.1 a) 4) (rN (s.1 b) 4) := by
  rw [rN_4, rN_4, cmp3_w]
  unfold vX8_order fX8_order_a16 fX8_order_a13 fX8_order_a12 fX8_order_a9 fX8_order_a8 fX8_order_a5 fX8_order_a4 fX8_order_a1 fX8_order_a2 fX8_order_a3 fX8_order_a6 fX8_order_a7 fX8_order_a10 fX8_order_a11 fX8_order_a14 fX8_order_a15
  simp only [ucmp_ge, ucmp_eq]
theorem isBelow_eq (x y : Int64) (s : zSt) : vX10_isBelow x y s = decide (tN x < tN y) := by
  unfold vX10_isBelow fX10_isBelow_a1 fX10_isBelow_a2
  by_cases h : tN y ≤ tN x
  · rw [if_pos ((ucmp_ge x y).mpr h)]
    exact (decide_eq_false (by omega)).symm
  · rw [if_neg (fun q => h ((ucmp_ge x y).mp q))]
    exact (decide_eq_true (by omega)).symm
theorem bif_lt (x y : Int64) (s : zSt) : (bif vX10_isBelow x y s then (-1 : Int32) else nI 1) = if tN y ≤ tN x then nI 1 else -1 := by
  rw [isBelow_eq]
  by_cases h : tN y ≤ tN x
  · rw [if_pos h, decide_eq_false (by omega)]
    rfl
  · rw [if_neg h, decide_eq_true (by omega)]
    rfl
/-- four words of the reference's row 4 -/
def w4 (s : zSt) (p : Nat) : Nat := rN (fun j => s.1 4 (p + j)) 4
theorem vX10_against_eq (a b : Nat) (s : zSt) : vX10_against a b s = cmp3 (w4 s a) (w4 s b) := by
  unfold w4
  rw [rN_4, rN_4, cmp3_w]
  unfold vX10_against fX10_against_a16 fX10_against_a13 fX10_against_a12 fX10_against_a9 fX10_against_a8 fX10_against_a5 fX10_against_a4 fX10_against_a1 fX10_against_a2 fX10_against_a3 fX10_against_a6 fX10_against_a7 fX10_against_a10 fX10_against_a11 fX10_against_a14 fX10_against_a15
  simp only [ucmp_eq, bif_lt]
