/-! the ladder, on both sides -/
def lst (u n1 n2 f1 f2 : Int) : Int × Int × Int × Int := ((n1 + n2) * (n1 + n2) * ((n1 - n2) * (n1 - n2)), ((n1 + n2) * (n1 + n2) - (n1 - n2) * (n1 - n2)) * ((n1 + n2) * (n1 + n2) + ((n1 + n2) * (n1 + n2) - (n1 - n2) * (n1 - n2)) * 121665), ((f1 - f2) * (n1 + n2) + (f1 + f2) * (n1 - n2)) * ((f1 - f2) * (n1 + n2) + (f1 + f2) * (n1 - n2)), ((f1 - f2) * (n1 + n2) - (f1 + f2) * (n1 - n2)) * ((f1 - f2) * (n1 + n2) - (f1 + f2) * (n1 - n2)) * u)
def lad1 (u : Int) (b : Nat) (x : Int × Int × Int × Int) : Int × Int × Int × Int := if b ≠ 1 then lst u x.1 x.2.1 x.2.2.1 x.2.2.2 else ((lst u x.2.2.1 x.2.2.2 x.1 x.2.1).2.2.1, (lst u x.2.2.1 x.2.2.2 x.1 x.2.1).2.2.2, (lst u x.2.2.1 x.2.2.2 x.1 x.2.1).1, (lst u x.2.2.1 x.2.2.2 x.1 x.2.1).2.1)
def lad (u : Int) (k : Nat) : Nat → Int × Int × Int × Int
  | 0 => (1, 0, u, 1)
  | n + 1 => lad1 u (k / 2 ^ (254 - n) % 2) (lad u k n)
theorem lad_0 (u : Int) (k : Nat) : lad u k 0 = (1, 0, u, 1) := rfl
theorem lad_s (u : Int) (k n : Nat) : lad u k (n + 1) = lad1 u (k / 2 ^ (254 - n) % 2) (lad u k n) := rfl
def ldv (u : Int) (k : Nat) : Int := (lad u k 255).1 * iv (lad u k 255).2.1
/-- the bits that a secret number is given -/
def clv (n : Nat) : Nat := n % 2 ^ 254 / 8 * 8 + 2 ^ 254
theorem and_m8 {a : Nat} (h : a < 18446744073709551616) : a &&& 18446744073709551608 = a / 8 * 8 := by
  have h1 := Nat.and_mod_two_pow (a := a) (b := 18446744073709551608) (n := 3)
  have h2 := Nat.and_div_two_pow (a := a) (b := 18446744073709551608) (n := 3)
  have e1 : 18446744073709551608 % 2 ^ 3 = 0 := by decide
  have e2 : 18446744073709551608 / 2 ^ 3 = 2 ^ 61 - 1 := by decide
  rw [e1, Nat.and_zero] at h1
  rw [e2, Nat.and_two_pow_sub_one_eq_mod] at h2
  generalize a &&& 18446744073709551608 = t at h1 h2
  omega
theorem or_62 {a : Nat} (h : a < 9223372036854775808) : a ||| 4611686018427387904 = a % 4611686018427387904 + 4611686018427387904 := by
  have h1 := Nat.or_mod_two_pow (a := a) (b := 4611686018427387904) (n := 62)
  have h2 := Nat.or_div_two_pow (a := a) (b := 4611686018427387904) (n := 62)
  have e1 : 4611686018427387904 % 2 ^ 62 = 0 := by decide
  have e2 : 4611686018427387904 / 2 ^ 62 = 1 := by decide
  rw [e1, Nat.or_zero] at h1
  rw [e2] at h2
  have h3 : a / 2 ^ 62 = 0 ∨ a / 2 ^ 62 = 1 := by omega
  generalize a ||| 4611686018427387904 = t at h1 h2
  rcases h3 with h3 | h3
  · rw [h3] at h2
    have h2 : t / 2 ^ 62 = 1 := h2
    omega
  · rw [h3] at h2
    have h2 : t / 2 ^ 62 = 1 := h2
    omega
theorem clamp_n (r : Nat → Int64) {x0 x3 : Int64} (h0 : x0 = r 0 &&& (-8)) (h3 : x3 = (r 3 &&& 9223372036854775807) ||| 4611686018427387904) : rN (vp_updL (vp_updL r 0 x0) 3 x3) 4 = clv (rN r 4) := by
  have hm : (9223372036854775807 : Int64).toBitVec.toNat = 2 ^ 63 - 1 := by decide
  have e8 : tN (-8) = 18446744073709551608 := by decide
  have e62 : tN 4611686018427387904 = 4611686018427387904 := by decide
  have t0 : tN x0 = tN (r 0) / 8 * 8 := by
    have e : tN (r 0 &&& (-8)) = tN (r 0) &&& tN (-8) := by
      unfold tN
      rw [Int64.toBitVec_and, BitVec.toNat_and]
    rw [h0, e, e8, and_m8 (tN_lt _)]
  have t3 : tN x3 = tN (r 3) % 4611686018427387904 + 4611686018427387904 := by
    have e := tN_and (r 3) 9223372036854775807 hm
    rw [h3, tN_or, e, e62, or_62 (by omega)]
    omega
  have l0 := tN_lt (r 0)
  have l1 := tN_lt (r 1)
  have l2 := tN_lt (r 2)
  have l3 := tN_lt (r 3)
  unfold clv
  have v0 : vp_updL (vp_updL r 0 x0) 3 x3 0 = x0 := by rw [pk_uLn (show (0 : Nat) ≠ 3 by omega), pk_uLs]
  have v1 : vp_updL (vp_updL r 0 x0) 3 x3 1 = r 1 := by rw [pk_uLn (show (1 : Nat) ≠ 3 by omega), pk_uLn (show (1 : Nat) ≠ 0 by omega)]
  have v2 : vp_updL (vp_updL r 0 x0) 3 x3 2 = r 2 := by rw [pk_uLn (show (2 : Nat) ≠ 3 by omega), pk_uLn (show (2 : Nat) ≠ 0 by omega)]
  have v3 : vp_updL (vp_updL r 0 x0) 3 x3 3 = x3 := pk_uLs
  rw [rN_4, rN_4, v0, v1, v2, v3, t0, t3]
  omega
theorem cX_clamp (a : Nat) (s : zSt) : (∀ id, id ≠ a → (fX8_clamp a s).1 id = s.1 id) ∧ rN ((fX8_clamp a s).1 a) 4 = clv (rN (s.1 a) 4) := by
  have eF : fX8_clamp a s = zW (zW s a 0 (s.1 a 0 &&& (-8))) a 3 (((zW s a 0 (s.1 a 0 &&& (-8))).1 a 3 &&& 9223372036854775807) ||| 4611686018427387904) := rfl
  rw [eF]
  refine ⟨fun id h => by rw [zW_ne _ _ _ h, zW_ne _ _ _ h], ?_⟩
  rw [zW_at, zW_at, pk_uLn (show (3 : Nat) ≠ 0 by omega)]
  exact clamp_n _ rfl rfl
theorem cM_clamp (p : Nat) (s : zSt) : w4fr p s (fX10_clamp p s) ∧ w4 (fX10_clamp p s) p = clv (w4 s p) := by
  have eF : fX10_clamp p s = zW (zW s 4 p (s.1 4 p &&& (-8))) 4 (p + 3) (((zW s 4 p (s.1 4 p &&& (-8))).1 4 (p + 3) &&& 9223372036854775807) ||| 4611686018427387904) := rfl
  rw [eF]
  refine ⟨fun id j h => ?_, ?_⟩
  · by_cases e : id = 4
    · subst e
      rw [zW_at, pk_uLn (by omega), zW_at, pk_uLn (by omega)]
    · rw [zW_ne _ _ _ e, zW_ne _ _ _ e]
  · have e := clamp_n (fun j => s.1 4 (p + j)) (x0 := s.1 4 p &&& (-8)) (x3 := (s.1 4 (p + 3) &&& 9223372036854775807) ||| 4611686018427387904) rfl rfl
    unfold w4
    rw [← e]
    refine rN_congr (fun i hi => ?_)
    rw [zW_at, zW_at, pk_uLn (show p + 3 ≠ p by omega)]
    by_cases e3 : i = 3
    · rw [e3, pk_uLs, pk_uLs]
    · rw [pk_uLn (by omega), pk_uLn e3]
      by_cases e0 : i = 0
      · rw [e0, Nat.add_zero, pk_uLs, pk_uLs]
      · rw [pk_uLn (by omega), pk_uLn e0]
theorem cX_step {s : zSt} {xa za xb zb u : Nat} {n1 n2 f1 f2 U : Int} (p0 : zf s xa n1 1) (p1 : zf s za n2 1) (p2 : zf s xb f1 1) (p3 : zf s zb f2 1) (pu : zf s u U 1) (h1 : 100 < xa ∧ xa < 170) (h2 : 100 < za ∧ za < 170) (h3 : 100 < xb ∧ xb < 170) (h4 : 100 < zb ∧ zb < 170) (h5 : 174 < u) (n1' : xa ≠ za ∧ xa ≠ xb ∧ xa ≠ zb) (n2' : za ≠ xb ∧ za ≠ zb ∧ xb ≠ zb) :
    (∀ id, id ≠ 40 → ¬ (170 ≤ id ∧ id ≤ 174) → id ≠ xa → id ≠ za → id ≠ xb → id ≠ zb → (fX2_step xa za xb zb u s).1 id = s.1 id) ∧ zf (fX2_step xa za xb zb u s) xa (lst U n1 n2 f1 f2).1 1 ∧ zf (fX2_step xa za xb zb u s) za (lst U n1 n2 f1 f2).2.1 1 ∧ zf (fX2_step xa za xb zb u s) xb (lst U n1 n2 f1 f2).2.2.1 1 ∧ zf (fX2_step xa za xb zb u s) zb (lst U n1 n2 f1 f2).2.2.2 1 := by
  unfold fX2_step
  dsimp only
  obtain ⟨w1, v1⟩ := cX_add (out := 170) p0 p1 (by omega)
  have f1_0 := zf_row (t := fX1_add xa za 170 s) pu (w1 u (by omega))
  have f1_1 := zf_row (t := fX1_add xa za 170 s) p0 (w1 xa (by omega))
  have f1_2 := zf_row (t := fX1_add xa za 170 s) p2 (w1 xb (by omega))
  have f1_3 := zf_row (t := fX1_add xa za 170 s) p1 (w1 za (by omega))
  have f1_4 := zf_row (t := fX1_add xa za 170 s) p3 (w1 zb (by omega))
  generalize fX1_add xa za 170 s = t1 at w1 v1 f1_0 f1_1 f1_2 f1_3 f1_4 ⊢
  obtain ⟨w2, v2⟩ := cX_sub (out := 171) f1_1 f1_3 (by omega)
  have f2_0 := zf_row (t := fX1_subtract xa za 171 t1) v1 (w2 170 (by omega))
  have f2_1 := zf_row (t := fX1_subtract xa za 171 t1) f1_0 (w2 u (by omega))
  have f2_2 := zf_row (t := fX1_subtract xa za 171 t1) f1_2 (w2 xb (by omega))
  have f2_3 := zf_row (t := fX1_subtract xa za 171 t1) f1_4 (w2 zb (by omega))
  generalize fX1_subtract xa za 171 t1 = t2 at w2 v2 f2_0 f2_1 f2_2 f2_3 ⊢
  obtain ⟨w3, v3⟩ := cX_add (out := 172) f2_2 f2_3 (by omega)
  have f3_0 := zf_row (t := fX1_add xb zb 172 t2) f2_0 (w3 170 (by omega))
  have f3_1 := zf_row (t := fX1_add xb zb 172 t2) v2 (w3 171 (by omega))
  have f3_2 := zf_row (t := fX1_add xb zb 172 t2) f2_1 (w3 u (by omega))
  have f3_3 := zf_row (t := fX1_add xb zb 172 t2) f2_2 (w3 xb (by omega))
  have f3_4 := zf_row (t := fX1_add xb zb 172 t2) f2_3 (w3 zb (by omega))
  generalize fX1_add xb zb 172 t2 = t3 at w3 v3 f3_0 f3_1 f3_2 f3_3 f3_4 ⊢
  obtain ⟨w4, v4⟩ := cX_sub (out := 173) f3_3 f3_4 (by omega)
  have f4_0 := zf_row (t := fX1_subtract xb zb 173 t3) f3_0 (w4 170 (by omega))
  have f4_1 := zf_row (t := fX1_subtract xb zb 173 t3) f3_1 (w4 171 (by omega))
  have f4_2 := zf_row (t := fX1_subtract xb zb 173 t3) v3 (w4 172 (by omega))
  have f4_3 := zf_row (t := fX1_subtract xb zb 173 t3) f3_2 (w4 u (by omega))
  generalize fX1_subtract xb zb 173 t3 = t4 at w4 v4 f4_0 f4_1 f4_2 f4_3 ⊢
  obtain ⟨w5, v5⟩ := cX_mul (out := 173) v4 f4_0 (by omega) (by omega) (by omega) (by omega)
  have f5_0 := zf_row (t := fX1_multiply 173 170 173 t4) f4_0 (w5 170 (by omega) (by omega))
  have f5_1 := zf_row (t := fX1_multiply 173 170 173 t4) f4_1 (w5 171 (by omega) (by omega))
  have f5_2 := zf_row (t := fX1_multiply 173 170 173 t4) f4_2 (w5 172 (by omega) (by omega))
  have f5_3 := zf_row (t := fX1_multiply 173 170 173 t4) f4_3 (w5 u (by omega) (by omega))
  generalize fX1_multiply 173 170 173 t4 = t5 at w5 v5 f5_0 f5_1 f5_2 f5_3 ⊢
  obtain ⟨w6, v6⟩ := cX_mul (out := 172) f5_2 f5_1 (by omega) (by omega) (by omega) (by omega)
  have f6_0 := zf_row (t := fX1_multiply 172 171 172 t5) f5_0 (w6 170 (by omega) (by omega))
  have f6_1 := zf_row (t := fX1_multiply 172 171 172 t5) f5_1 (w6 171 (by omega) (by omega))
  have f6_2 := zf_row (t := fX1_multiply 172 171 172 t5) v5 (w6 173 (by omega) (by omega))
  have f6_3 := zf_row (t := fX1_multiply 172 171 172 t5) f5_3 (w6 u (by omega) (by omega))
  generalize fX1_multiply 172 171 172 t5 = t6 at w6 v6 f6_0 f6_1 f6_2 f6_3 ⊢
  obtain ⟨w7, v7⟩ := cX_add (out := xb) f6_2 v6 (by omega)
  have f7_0 := zf_row (t := fX1_add 173 172 xb t6) f6_0 (w7 170 (by omega))
  have f7_1 := zf_row (t := fX1_add 173 172 xb t6) f6_1 (w7 171 (by omega))
  have f7_2 := zf_row (t := fX1_add 173 172 xb t6) v6 (w7 172 (by omega))
  have f7_3 := zf_row (t := fX1_add 173 172 xb t6) f6_2 (w7 173 (by omega))
  have f7_4 := zf_row (t := fX1_add 173 172 xb t6) f6_3 (w7 u (by omega))
  generalize fX1_add 173 172 xb t6 = t7 at w7 v7 f7_0 f7_1 f7_2 f7_3 f7_4 ⊢
  obtain ⟨w8, v8⟩ := cX_sq (out := xb) v7 (by omega) (by omega) (by omega)
  have f8_0 := zf_row (t := fX1_square xb xb t7) f7_0 (w8 170 (by omega) (by omega))
  have f8_1 := zf_row (t := fX1_square xb xb t7) f7_1 (w8 171 (by omega) (by omega))
  have f8_2 := zf_row (t := fX1_square xb xb t7) f7_2 (w8 172 (by omega) (by omega))
  have f8_3 := zf_row (t := fX1_square xb xb t7) f7_3 (w8 173 (by omega) (by omega))
  have f8_4 := zf_row (t := fX1_square xb xb t7) f7_4 (w8 u (by omega) (by omega))
  generalize fX1_square xb xb t7 = t8 at w8 v8 f8_0 f8_1 f8_2 f8_3 f8_4 ⊢
  obtain ⟨w9, v9⟩ := cX_sub (out := zb) f8_3 f8_2 (by omega)
  have f9_0 := zf_row (t := fX1_subtract 173 172 zb t8) f8_0 (w9 170 (by omega))
  have f9_1 := zf_row (t := fX1_subtract 173 172 zb t8) f8_1 (w9 171 (by omega))
  have f9_2 := zf_row (t := fX1_subtract 173 172 zb t8) f8_4 (w9 u (by omega))
  have f9_3 := zf_row (t := fX1_subtract 173 172 zb t8) v8 (w9 xb (by omega))
  generalize fX1_subtract 173 172 zb t8 = t9 at w9 v9 f9_0 f9_1 f9_2 f9_3 ⊢
  obtain ⟨w10, v10⟩ := cX_sq (out := zb) v9 (by omega) (by omega) (by omega)
  have f10_0 := zf_row (t := fX1_square zb zb t9) f9_0 (w10 170 (by omega) (by omega))
  have f10_1 := zf_row (t := fX1_square zb zb t9) f9_1 (w10 171 (by omega) (by omega))
  have f10_2 := zf_row (t := fX1_square zb zb t9) f9_2 (w10 u (by omega) (by omega))
  have f10_3 := zf_row (t := fX1_square zb zb t9) f9_3 (w10 xb (by omega) (by omega))
  generalize fX1_square zb zb t9 = t10 at w10 v10 f10_0 f10_1 f10_2 f10_3 ⊢
  obtain ⟨w11, v11⟩ := cX_mul (out := zb) v10 f10_2 (by omega) (by omega) (by omega) (by omega)
  have f11_0 := zf_row (t := fX1_multiply zb u zb t10) f10_0 (w11 170 (by omega) (by omega))
  have f11_1 := zf_row (t := fX1_multiply zb u zb t10) f10_1 (w11 171 (by omega) (by omega))
  have f11_2 := zf_row (t := fX1_multiply zb u zb t10) f10_3 (w11 xb (by omega) (by omega))
  generalize fX1_multiply zb u zb t10 = t11 at w11 v11 f11_0 f11_1 f11_2 ⊢
  obtain ⟨w12, v12⟩ := cX_sq (out := 170) f11_0 (by omega) (by omega) (by omega)
  have f12_0 := zf_row (t := fX1_square 170 170 t11) f11_1 (w12 171 (by omega) (by omega))
  have f12_1 := zf_row (t := fX1_square 170 170 t11) f11_2 (w12 xb (by omega) (by omega))
  have f12_2 := zf_row (t := fX1_square 170 170 t11) v11 (w12 zb (by omega) (by omega))
  generalize fX1_square 170 170 t11 = t12 at w12 v12 f12_0 f12_1 f12_2 ⊢
  obtain ⟨w13, v13⟩ := cX_sq (out := 171) f12_0 (by omega) (by omega) (by omega)
  have f13_0 := zf_row (t := fX1_square 171 171 t12) v12 (w13 170 (by omega) (by omega))
  have f13_1 := zf_row (t := fX1_square 171 171 t12) f12_1 (w13 xb (by omega) (by omega))
  have f13_2 := zf_row (t := fX1_square 171 171 t12) f12_2 (w13 zb (by omega) (by omega))
  generalize fX1_square 171 171 t12 = t13 at w13 v13 f13_0 f13_1 f13_2 ⊢
  obtain ⟨w14, v14⟩ := cX_sub (out := 174) f13_0 v13 (by omega)
  have f14_0 := zf_row (t := fX1_subtract 170 171 174 t13) f13_0 (w14 170 (by omega))
  have f14_1 := zf_row (t := fX1_subtract 170 171 174 t13) v13 (w14 171 (by omega))
  have f14_2 := zf_row (t := fX1_subtract 170 171 174 t13) f13_1 (w14 xb (by omega))
  have f14_3 := zf_row (t := fX1_subtract 170 171 174 t13) f13_2 (w14 zb (by omega))
  generalize fX1_subtract 170 171 174 t13 = t14 at w14 v14 f14_0 f14_1 f14_2 f14_3 ⊢
  obtain ⟨w15, v15⟩ := cX_mul (out := xa) f14_0 f14_1 (by omega) (by omega) (by omega) (by omega)
  have f15_0 := zf_row (t := fX1_multiply 170 171 xa t14) f14_0 (w15 170 (by omega) (by omega))
  have f15_1 := zf_row (t := fX1_multiply 170 171 xa t14) v14 (w15 174 (by omega) (by omega))
  have f15_2 := zf_row (t := fX1_multiply 170 171 xa t14) f14_2 (w15 xb (by omega) (by omega))
  have f15_3 := zf_row (t := fX1_multiply 170 171 xa t14) f14_3 (w15 zb (by omega) (by omega))
  generalize fX1_multiply 170 171 xa t14 = t15 at w15 v15 f15_0 f15_1 f15_2 f15_3 ⊢
  obtain ⟨w16, v16⟩ := cX_scale (out := 171) f15_1
  have f16_0 := zf_row (t := fX1_scale 174 121665 171 t15) f15_0 (w16 170 (by omega))
  have f16_1 := zf_row (t := fX1_scale 174 121665 171 t15) f15_1 (w16 174 (by omega))
  have f16_2 := zf_row (t := fX1_scale 174 121665 171 t15) v15 (w16 xa (by omega))
  have f16_3 := zf_row (t := fX1_scale 174 121665 171 t15) f15_2 (w16 xb (by omega))
  have f16_4 := zf_row (t := fX1_scale 174 121665 171 t15) f15_3 (w16 zb (by omega))
  generalize fX1_scale 174 121665 171 t15 = t16 at w16 v16 f16_0 f16_1 f16_2 f16_3 f16_4 ⊢
  obtain ⟨w17, v17⟩ := cX_add (out := 171) f16_0 v16 (by omega)
  have f17_0 := zf_row (t := fX1_add 170 171 171 t16) f16_1 (w17 174 (by omega))
  have f17_1 := zf_row (t := fX1_add 170 171 171 t16) f16_2 (w17 xa (by omega))
  have f17_2 := zf_row (t := fX1_add 170 171 171 t16) f16_3 (w17 xb (by omega))
  have f17_3 := zf_row (t := fX1_add 170 171 171 t16) f16_4 (w17 zb (by omega))
  generalize fX1_add 170 171 171 t16 = t17 at w17 v17 f17_0 f17_1 f17_2 f17_3 ⊢
  obtain ⟨w18, v18⟩ := cX_mul (out := za) f17_0 v17 (by omega) (by omega) (by omega) (by omega)
  have f18_0 := zf_row (t := fX1_multiply 174 171 za t17) f17_1 (w18 xa (by omega) (by omega))
  have f18_1 := zf_row (t := fX1_multiply 174 171 za t17) f17_2 (w18 xb (by omega) (by omega))
  have f18_2 := zf_row (t := fX1_multiply 174 171 za t17) f17_3 (w18 zb (by omega) (by omega))
  generalize fX1_multiply 174 171 za t17 = t18 at w18 v18 f18_0 f18_1 f18_2 ⊢
  exact ⟨fun id m1 m2 m3 m4 m5 m6 => by rw [w18 id (by omega) (by omega), w17 id (by omega), w16 id (by omega), w15 id (by omega) (by omega), w14 id (by omega), w13 id (by omega) (by omega), w12 id (by omega) (by omega), w11 id (by omega) (by omega), w10 id (by omega) (by omega), w9 id (by omega), w8 id (by omega) (by omega), w7 id (by omega), w6 id (by omega) (by omega), w5 id (by omega) (by omega), w4 id (by omega), w3 id (by omega), w2 id (by omega), w1 id (by omega)], f18_0, v18, f18_1, f18_2⟩
theorem cX_climb {s : zSt} {ks u out : Nat} {U : Int} (pu : zf s u U 1) (h1 : rN (s.1 1) 4 = pInv) (hu : 174 < u) (ho : 174 < out) (hks : ks ≠ 165) :
    (∀ id, id ≠ 40 → ¬ (45 ≤ id ∧ id ≤ 60) → ¬ (165 ≤ id ∧ id ≤ 174) → id ≠ out → (fX2_climb ks u out s).1 id = s.1 id) ∧ zf (fX2_climb ks u out s) out (ldv U (clv (rN (s.1 ks) 4))) 1 := by
  have eF : fX2_climb ks u out s = fX1_multiply 166 167 out (fX1_invert 167 167 (zdown (fX2_climb_68 u) 255 (fX1_become 169 1 (fX1_move u 168 (fX1_become 167 0 (fX1_become 166 1 (fX8_clamp 165 (fX8_move ks 165 s)))))))) := rfl
  rw [eF]
  have a1 : ∀ id, id ≠ 165 → (fX8_move ks 165 s).1 id = s.1 id := fun id h => zL_n _ _ h
  have a2 : rN ((fX8_move ks 165 s).1 165) 4 = rN (s.1 ks) 4 := rN_congr (fun i hi => by
    show (zL s 165 (va_cpy (s.1 ks) (s.1 165) 0 0 4)).1 165 i = _
    rw [zL_s, pk_cpy_in (Nat.zero_le _) (by omega), show 0 + (i - 0) = i by omega])
  generalize fX8_move ks 165 s = t1 at a1 a2 ⊢
  obtain ⟨b1, b2⟩ := cX_clamp 165 t1
  rw [a2] at b2
  generalize clv (rN (s.1 ks) 4) = K at b2 ⊢
  generalize fX8_clamp 165 t1 = t2 at b1 b2 ⊢
  have pu2 := zf_row (t := t2) pu (by rw [b1 u (by omega), a1 u (by omega)])
  obtain ⟨c1, c2⟩ := cX_one (s := t2) (a := 166)
  have pu3 := zf_row (t := fX1_become 166 1 t2) pu2 (c1 u (by omega))
  generalize fX1_become 166 1 t2 = t3 at c1 c2 pu3 ⊢
  obtain ⟨d1, d2⟩ := cX_zero (s := t3) (a := 167)
  have pu4 := zf_row (t := fX1_become 167 0 t3) pu3 (d1 u (by omega))
  have c3 := zf_row (t := fX1_become 167 0 t3) c2 (d1 166 (by omega))
  generalize fX1_become 167 0 t3 = t4 at d1 d2 pu4 c3 ⊢
  obtain ⟨e1, e2⟩ := cX_move (out := 168) pu4
  have pu5 := zf_row (t := fX1_move u 168 t4) pu4 (e1 u (by omega))
  have c4 := zf_row (t := fX1_move u 168 t4) c3 (e1 166 (by omega))
  have d3 := zf_row (t := fX1_move u 168 t4) d2 (e1 167 (by omega))
  generalize fX1_move u 168 t4 = t5 at e1 e2 pu5 c4 d3 ⊢
  obtain ⟨f1, f2⟩ := cX_one (s := t5) (a := 169)
  have pu6 := zf_row (t := fX1_become 169 1 t5) pu5 (f1 u (by omega))
  have c5 := zf_row (t := fX1_become 169 1 t5) c4 (f1 166 (by omega))
  have d4 := zf_row (t := fX1_become 169 1 t5) d3 (f1 167 (by omega))
  have e3 := zf_row (t := fX1_become 169 1 t5) e2 (f1 168 (by omega))
  generalize fX1_become 169 1 t5 = t6 at f1 f2 pu6 c5 d4 e3 ⊢
  have fr6 : ∀ id, ¬ (165 ≤ id ∧ id ≤ 169) → t6.1 id = s.1 id := fun id h => by
    rw [f1 id (by omega), e1 id (by omega), d1 id (by omega), c1 id (by omega), b1 id (by omega), a1 id (by omega)]
  have k6 : rN (t6.1 165) 4 = K := by
    rw [f1 165 (by omega), e1 165 (by omega), d1 165 (by omega), c1 165 (by omega)]
    exact b2
  have H := zdown_I (fX2_climb_68 u) (fun j σ => j ≤ 255 ∧ (∀ id, id ≠ 40 → ¬ (166 ≤ id ∧ id ≤ 174) → σ.1 id = t6.1 id) ∧ zf σ 166 (lad U K (255 - j)).1 1 ∧ zf σ 167 (lad U K (255 - j)).2.1 1 ∧ zf σ 168 (lad U K (255 - j)).2.2.1 1 ∧ zf σ 169 (lad U K (255 - j)).2.2.2 1) ?_ 255 t6 (by rw [Nat.sub_self, lad_0]; exact ⟨Nat.le_refl _, fun _ _ _ => rfl, c5, d4, e3, f2⟩)
  rotate_left
  · intro j σ ⟨q0, q1, q2, q3, q4, q5⟩
    have puσ := zf_row (t := σ) pu6 (q1 u (by omega) (by omega))
    have eb : vX8_bit 165 4 j σ = K / 2 ^ j % 2 := by
      rw [vX8_bit_eq 165 4 j 4 σ (by omega), q1 165 (by omega) (by omega), k6]
    have el : lad U K (255 - j) = lad1 U (K / 2 ^ j % 2) (lad U K (255 - (j + 1))) := by
      have e9 := lad_s U K (255 - (j + 1))
      rw [show 255 - (j + 1) + 1 = 255 - j by omega, show 254 - (255 - (j + 1)) = j by omega] at e9
      exact e9
    rw [el]
    generalize lad U K (255 - (j + 1)) = x at q2 q3 q4 q5 ⊢
    have eG : fX2_climb_68 u j σ = if K / 2 ^ j % 2 ≠ 1 then fX2_step 166 167 168 169 u σ else fX2_step 168 169 166 167 u σ := by
      unfold fX2_climb_68 fX2_climb_a1 fX2_climb_a2
      dsimp only
      rw [eb]
    rw [eG]
    unfold lad1
    by_cases q : K / 2 ^ j % 2 ≠ 1
    · rw [if_pos q, if_pos q]
      obtain ⟨w1, w2, w3, w4', w5⟩ := cX_step q2 q3 q4 q5 puσ (by omega) (by omega) (by omega) (by omega) hu (by omega) (by omega)
      exact ⟨by omega, fun id r1 r2 => by rw [w1 id r1 (by omega) (by omega) (by omega) (by omega) (by omega), q1 id r1 r2], w2, w3, w4', w5⟩
    · rw [if_neg q, if_neg q]
      obtain ⟨w1, w2, w3, w4', w5⟩ := cX_step q4 q5 q2 q3 puσ (by omega) (by omega) (by omega) (by omega) hu (by omega) (by omega)
      exact ⟨by omega, fun id r1 r2 => by rw [w1 id r1 (by omega) (by omega) (by omega) (by omega) (by omega), q1 id r1 r2], w4', w5, w2, w3⟩
  generalize zdown (fX2_climb_68 u) 255 t6 = t7 at H ⊢
  obtain ⟨-, q1, q2, q3, -, -⟩ := H
  rw [Nat.sub_zero] at q2 q3
  obtain ⟨i1, i2⟩ := cX_invert (out := 167) q3 (by omega) (by rw [q1 1 (by omega) (by omega), fr6 1 (by omega)]; exact h1) (by omega) (by omega)
  have q2' := zf_row (t := fX1_invert 167 167 t7) q2 (i1 166 (by omega) (by omega) (by omega))
  generalize fX1_invert 167 167 t7 = t8 at i1 i2 q2' ⊢
  obtain ⟨m1, m2⟩ := cX_mul (out := out) q2' i2 (by omega) (by omega) (by omega) (by omega)
  refine ⟨fun id r1 r2 r3 r4 => ?_, m2⟩
  rw [m1 id r1 r4, i1 id r1 (by omega) r2, q1 id r1 (by omega), fr6 id (by omega)]
theorem cM_swap {s : zSt} {a b k m : Nat} {x y : Int} (fa : mf s a x k) (fb : mf s b y m) (hab : a ≠ b) : (∀ id j, ¬ (id = 2 ∧ 16 * a ≤ j ∧ j < 16 * a + 16) → ¬ (id = 2 ∧ 16 * b ≤ j ∧ j < 16 * b + 16) → (fX10_swap a b s).1 id j = s.1 id j) ∧ mf (fX10_swap a b s) a y m ∧ mf (fX10_swap a b s) b x k := by
  have H := ziter_I (fX10_swap_2 a b) (fun i σ => (∀ id j, ¬ (id = 2 ∧ 16 * a ≤ j ∧ j < 16 * a + i) → ¬ (id = 2 ∧ 16 * b ≤ j ∧ j < 16 * b + i) → σ.1 id j = s.1 id j) ∧ (∀ j, j < i → σ.1 2 (16 * a + j) = s.1 2 (16 * b + j)) ∧ (∀ j, j < i → σ.1 2 (16 * b + j) = s.1 2 (16 * a + j))) 16 ?_ 16 0 s (by omega) ⟨fun _ _ _ _ => rfl, fun j hj => absurd hj (Nat.not_lt_zero j), fun j hj => absurd hj (Nat.not_lt_zero j)⟩
  · have eF : fX10_swap a b s = ziter (fX10_swap_2 a b) 0 16 s := rfl
    rw [eF]
    generalize ziter (fX10_swap_2 a b) 0 16 s = t at H
    obtain ⟨h1, h2, h3⟩ := H
    refine ⟨h1, ⟨?_, fun i hi => ?_⟩, ⟨?_, fun i hi => ?_⟩⟩
    · rw [rv_congr (r := gr t a) (r' := gr s b) h2]
      exact fb.1
    · have e : gr t a i = gr s b i := h2 i hi
      rw [e]
      exact fb.2 i hi
    · rw [rv_congr (r := gr t b) (r' := gr s a) h3]
      exact fa.1
    · have e : gr t b i = gr s a i := h3 i hi
      rw [e]
      exact fa.2 i hi
  intro i σ hi ⟨h1, h2, h3⟩
  have eF : fX10_swap_2 a b i σ = zW (zW σ 2 (16 * a + i) (σ.1 2 (16 * b + i))) 2 (16 * b + i) (σ.1 2 (16 * a + i)) := rfl
  rw [eF]
  refine ⟨fun id j n1 n2 => ?_, fun j hj => ?_, fun j hj => ?_⟩
  · by_cases e : id = 2
    · subst e
      rw [zW_at, pk_uLn (by omega), zW_at, pk_uLn (by omega)]
      exact h1 2 j (by omega) (by omega)
    · rw [zW_ne _ _ _ e, zW_ne _ _ _ e]
      exact h1 id j (by omega) (by omega)
  · rw [zW_at, pk_uLn (by omega), zW_at]
    by_cases e : j = i
    · rw [e, pk_uLs]
      exact h1 2 _ (by omega) (by omega)
    · rw [pk_uLn (by omega)]
      exact h2 j (by omega)
  · rw [zW_at]
    by_cases e : j = i
    · rw [e, pk_uLs]
      exact h1 2 _ (by omega) (by omega)
    · rw [pk_uLn (by omega), zW_at, pk_uLn (by omega)]
      exact h3 j (by omega)
theorem rg_v1 (e a : Int) : e * (121665 * e + a) = e * (a + e * 121665) := by grind
def lsM (s : zSt) : zSt := fX10_multiply 37 30 33 (fX10_add 33 33 28 (fX10_multiply 33 44 30 (fX10_multiply 36 28 29 (fX10_multiply 39 40 33 (fX10_multiply 33 33 33 (fX10_subtract 33 32 31 (fX10_multiply 38 33 33 (fX10_add 33 32 31 (fX10_multiply 31 31 27 (fX10_multiply 32 32 26 (fX10_subtract 32 38 39 (fX10_add 31 38 39 (fX10_subtract 30 28 29 (fX10_multiply 29 27 27 (fX10_multiply 28 26 26 (fX10_subtract 27 36 37 (fX10_add 26 36 37 s)))))))))))))))))
theorem cM_step {s : zSt} {n1 n2 f1 f2 U : Int} (p0 : mf s 36 n1 1) (p1 : mf s 37 n2 1) (p2 : mf s 38 f1 1) (p3 : mf s 39 f2 1) (pu : mf s 40 U 1) (pc : mf s 44 121665 1) :
    (∀ id j, id ≠ 3 → ¬ (id = 2 ∧ 416 ≤ j ∧ j < 544) → ¬ (id = 2 ∧ 576 ≤ j ∧ j < 640) → (lsM s).1 id j = s.1 id j) ∧ mf (lsM s) 36 (lst U n1 n2 f1 f2).1 1 ∧ mf (lsM s) 37 (lst U n1 n2 f1 f2).2.1 1 ∧ mf (lsM s) 38 (lst U n1 n2 f1 f2).2.2.1 1 ∧ mf (lsM s) 39 (lst U n1 n2 f1 f2).2.2.2 1 := by
  unfold lsM
  obtain ⟨w1, v1⟩ := cM_add (r := 26) p0 p1 (by omega)
  have f1_0 := mf_row (t := fX10_add 26 36 37 s) p0 (fun j hj => w1 2 (16 * 36 + j) (by omega))
  have f1_1 := mf_row (t := fX10_add 26 36 37 s) p1 (fun j hj => w1 2 (16 * 37 + j) (by omega))
  have f1_2 := mf_row (t := fX10_add 26 36 37 s) p2 (fun j hj => w1 2 (16 * 38 + j) (by omega))
  have f1_3 := mf_row (t := fX10_add 26 36 37 s) p3 (fun j hj => w1 2 (16 * 39 + j) (by omega))
  have f1_4 := mf_row (t := fX10_add 26 36 37 s) pu (fun j hj => w1 2 (16 * 40 + j) (by omega))
  have f1_5 := mf_row (t := fX10_add 26 36 37 s) pc (fun j hj => w1 2 (16 * 44 + j) (by omega))
  generalize fX10_add 26 36 37 s = t1 at w1 v1 f1_0 f1_1 f1_2 f1_3 f1_4 f1_5 ⊢
  obtain ⟨w2, v2⟩ := cM_sub (r := 27) f1_0 f1_1 (by omega)
  have f2_0 := mf_row (t := fX10_subtract 27 36 37 t1) v1 (fun j hj => w2 2 (16 * 26 + j) (by omega))
  have f2_1 := mf_row (t := fX10_subtract 27 36 37 t1) f1_2 (fun j hj => w2 2 (16 * 38 + j) (by omega))
  have f2_2 := mf_row (t := fX10_subtract 27 36 37 t1) f1_3 (fun j hj => w2 2 (16 * 39 + j) (by omega))
  have f2_3 := mf_row (t := fX10_subtract 27 36 37 t1) f1_4 (fun j hj => w2 2 (16 * 40 + j) (by omega))
  have f2_4 := mf_row (t := fX10_subtract 27 36 37 t1) f1_5 (fun j hj => w2 2 (16 * 44 + j) (by omega))
  generalize fX10_subtract 27 36 37 t1 = t2 at w2 v2 f2_0 f2_1 f2_2 f2_3 f2_4 ⊢
  obtain ⟨w3, v3⟩ := cM_mul (r := 28) f2_0 f2_0 (by omega)
  have f3_0 := mf_row (t := fX10_multiply 28 26 26 t2) f2_0 (fun j hj => w3 2 (16 * 26 + j) (by omega) (by omega))
  have f3_1 := mf_row (t := fX10_multiply 28 26 26 t2) v2 (fun j hj => w3 2 (16 * 27 + j) (by omega) (by omega))
  have f3_2 := mf_row (t := fX10_multiply 28 26 26 t2) f2_1 (fun j hj => w3 2 (16 * 38 + j) (by omega) (by omega))
  have f3_3 := mf_row (t := fX10_multiply 28 26 26 t2) f2_2 (fun j hj => w3 2 (16 * 39 + j) (by omega) (by omega))
  have f3_4 := mf_row (t := fX10_multiply 28 26 26 t2) f2_3 (fun j hj => w3 2 (16 * 40 + j) (by omega) (by omega))
  have f3_5 := mf_row (t := fX10_multiply 28 26 26 t2) f2_4 (fun j hj => w3 2 (16 * 44 + j) (by omega) (by omega))
  generalize fX10_multiply 28 26 26 t2 = t3 at w3 v3 f3_0 f3_1 f3_2 f3_3 f3_4 f3_5 ⊢
  obtain ⟨w4, v4⟩ := cM_mul (r := 29) f3_1 f3_1 (by omega)
  have f4_0 := mf_row (t := fX10_multiply 29 27 27 t3) f3_0 (fun j hj => w4 2 (16 * 26 + j) (by omega) (by omega))
  have f4_1 := mf_row (t := fX10_multiply 29 27 27 t3) f3_1 (fun j hj => w4 2 (16 * 27 + j) (by omega) (by omega))
  have f4_2 := mf_row (t := fX10_multiply 29 27 27 t3) v3 (fun j hj => w4 2 (16 * 28 + j) (by omega) (by omega))
  have f4_3 := mf_row (t := fX10_multiply 29 27 27 t3) f3_2 (fun j hj => w4 2 (16 * 38 + j) (by omega) (by omega))
  have f4_4 := mf_row (t := fX10_multiply 29 27 27 t3) f3_3 (fun j hj => w4 2 (16 * 39 + j) (by omega) (by omega))
  have f4_5 := mf_row (t := fX10_multiply 29 27 27 t3) f3_4 (fun j hj => w4 2 (16 * 40 + j) (by omega) (by omega))
  have f4_6 := mf_row (t := fX10_multiply 29 27 27 t3) f3_5 (fun j hj => w4 2 (16 * 44 + j) (by omega) (by omega))
  generalize fX10_multiply 29 27 27 t3 = t4 at w4 v4 f4_0 f4_1 f4_2 f4_3 f4_4 f4_5 f4_6 ⊢
  obtain ⟨w5, v5⟩ := cM_sub (r := 30) f4_2 v4 (by omega)
  have f5_0 := mf_row (t := fX10_subtract 30 28 29 t4) f4_0 (fun j hj => w5 2 (16 * 26 + j) (by omega))
  have f5_1 := mf_row (t := fX10_subtract 30 28 29 t4) f4_1 (fun j hj => w5 2 (16 * 27 + j) (by omega))
  have f5_2 := mf_row (t := fX10_subtract 30 28 29 t4) f4_2 (fun j hj => w5 2 (16 * 28 + j) (by omega))
  have f5_3 := mf_row (t := fX10_subtract 30 28 29 t4) v4 (fun j hj => w5 2 (16 * 29 + j) (by omega))
  have f5_4 := mf_row (t := fX10_subtract 30 28 29 t4) f4_3 (fun j hj => w5 2 (16 * 38 + j) (by omega))
  have f5_5 := mf_row (t := fX10_subtract 30 28 29 t4) f4_4 (fun j hj => w5 2 (16 * 39 + j) (by omega))
  have f5_6 := mf_row (t := fX10_subtract 30 28 29 t4) f4_5 (fun j hj => w5 2 (16 * 40 + j) (by omega))
  have f5_7 := mf_row (t := fX10_subtract 30 28 29 t4) f4_6 (fun j hj => w5 2 (16 * 44 + j) (by omega))
  generalize fX10_subtract 30 28 29 t4 = t5 at w5 v5 f5_0 f5_1 f5_2 f5_3 f5_4 f5_5 f5_6 f5_7 ⊢
  obtain ⟨w6, v6⟩ := cM_add (r := 31) f5_4 f5_5 (by omega)
  have f6_0 := mf_row (t := fX10_add 31 38 39 t5) f5_0 (fun j hj => w6 2 (16 * 26 + j) (by omega))
  have f6_1 := mf_row (t := fX10_add 31 38 39 t5) f5_1 (fun j hj => w6 2 (16 * 27 + j) (by omega))
  have f6_2 := mf_row (t := fX10_add 31 38 39 t5) f5_2 (fun j hj => w6 2 (16 * 28 + j) (by omega))
  have f6_3 := mf_row (t := fX10_add 31 38 39 t5) f5_3 (fun j hj => w6 2 (16 * 29 + j) (by omega))
  have f6_4 := mf_row (t := fX10_add 31 38 39 t5) v5 (fun j hj => w6 2 (16 * 30 + j) (by omega))
  have f6_5 := mf_row (t := fX10_add 31 38 39 t5) f5_4 (fun j hj => w6 2 (16 * 38 + j) (by omega))
  have f6_6 := mf_row (t := fX10_add 31 38 39 t5) f5_5 (fun j hj => w6 2 (16 * 39 + j) (by omega))
  have f6_7 := mf_row (t := fX10_add 31 38 39 t5) f5_6 (fun j hj => w6 2 (16 * 40 + j) (by omega))
  have f6_8 := mf_row (t := fX10_add 31 38 39 t5) f5_7 (fun j hj => w6 2 (16 * 44 + j) (by omega))
  generalize fX10_add 31 38 39 t5 = t6 at w6 v6 f6_0 f6_1 f6_2 f6_3 f6_4 f6_5 f6_6 f6_7 f6_8 ⊢
  obtain ⟨w7, v7⟩ := cM_sub (r := 32) f6_5 f6_6 (by omega)
  have f7_0 := mf_row (t := fX10_subtract 32 38 39 t6) f6_0 (fun j hj => w7 2 (16 * 26 + j) (by omega))
  have f7_1 := mf_row (t := fX10_subtract 32 38 39 t6) f6_1 (fun j hj => w7 2 (16 * 27 + j) (by omega))
  have f7_2 := mf_row (t := fX10_subtract 32 38 39 t6) f6_2 (fun j hj => w7 2 (16 * 28 + j) (by omega))
  have f7_3 := mf_row (t := fX10_subtract 32 38 39 t6) f6_3 (fun j hj => w7 2 (16 * 29 + j) (by omega))
  have f7_4 := mf_row (t := fX10_subtract 32 38 39 t6) f6_4 (fun j hj => w7 2 (16 * 30 + j) (by omega))
  have f7_5 := mf_row (t := fX10_subtract 32 38 39 t6) v6 (fun j hj => w7 2 (16 * 31 + j) (by omega))
  have f7_6 := mf_row (t := fX10_subtract 32 38 39 t6) f6_7 (fun j hj => w7 2 (16 * 40 + j) (by omega))
  have f7_7 := mf_row (t := fX10_subtract 32 38 39 t6) f6_8 (fun j hj => w7 2 (16 * 44 + j) (by omega))
  generalize fX10_subtract 32 38 39 t6 = t7 at w7 v7 f7_0 f7_1 f7_2 f7_3 f7_4 f7_5 f7_6 f7_7 ⊢
  obtain ⟨w8, v8⟩ := cM_mul (r := 32) v7 f7_0 (by omega)
  have f8_0 := mf_row (t := fX10_multiply 32 32 26 t7) f7_1 (fun j hj => w8 2 (16 * 27 + j) (by omega) (by omega))
  have f8_1 := mf_row (t := fX10_multiply 32 32 26 t7) f7_2 (fun j hj => w8 2 (16 * 28 + j) (by omega) (by omega))
  have f8_2 := mf_row (t := fX10_multiply 32 32 26 t7) f7_3 (fun j hj => w8 2 (16 * 29 + j) (by omega) (by omega))
  have f8_3 := mf_row (t := fX10_multiply 32 32 26 t7) f7_4 (fun j hj => w8 2 (16 * 30 + j) (by omega) (by omega))
  have f8_4 := mf_row (t := fX10_multiply 32 32 26 t7) f7_5 (fun j hj => w8 2 (16 * 31 + j) (by omega) (by omega))
  have f8_5 := mf_row (t := fX10_multiply 32 32 26 t7) f7_6 (fun j hj => w8 2 (16 * 40 + j) (by omega) (by omega))
  have f8_6 := mf_row (t := fX10_multiply 32 32 26 t7) f7_7 (fun j hj => w8 2 (16 * 44 + j) (by omega) (by omega))
  generalize fX10_multiply 32 32 26 t7 = t8 at w8 v8 f8_0 f8_1 f8_2 f8_3 f8_4 f8_5 f8_6 ⊢
  obtain ⟨w9, v9⟩ := cM_mul (r := 31) f8_4 f8_0 (by omega)
  have f9_0 := mf_row (t := fX10_multiply 31 31 27 t8) f8_1 (fun j hj => w9 2 (16 * 28 + j) (by omega) (by omega))
  have f9_1 := mf_row (t := fX10_multiply 31 31 27 t8) f8_2 (fun j hj => w9 2 (16 * 29 + j) (by omega) (by omega))
  have f9_2 := mf_row (t := fX10_multiply 31 31 27 t8) f8_3 (fun j hj => w9 2 (16 * 30 + j) (by omega) (by omega))
  have f9_3 := mf_row (t := fX10_multiply 31 31 27 t8) v8 (fun j hj => w9 2 (16 * 32 + j) (by omega) (by omega))
  have f9_4 := mf_row (t := fX10_multiply 31 31 27 t8) f8_5 (fun j hj => w9 2 (16 * 40 + j) (by omega) (by omega))
  have f9_5 := mf_row (t := fX10_multiply 31 31 27 t8) f8_6 (fun j hj => w9 2 (16 * 44 + j) (by omega) (by omega))
  generalize fX10_multiply 31 31 27 t8 = t9 at w9 v9 f9_0 f9_1 f9_2 f9_3 f9_4 f9_5 ⊢
  obtain ⟨w10, v10⟩ := cM_add (r := 33) f9_3 v9 (by omega)
  have f10_0 := mf_row (t := fX10_add 33 32 31 t9) f9_0 (fun j hj => w10 2 (16 * 28 + j) (by omega))
  have f10_1 := mf_row (t := fX10_add 33 32 31 t9) f9_1 (fun j hj => w10 2 (16 * 29 + j) (by omega))
  have f10_2 := mf_row (t := fX10_add 33 32 31 t9) f9_2 (fun j hj => w10 2 (16 * 30 + j) (by omega))
  have f10_3 := mf_row (t := fX10_add 33 32 31 t9) v9 (fun j hj => w10 2 (16 * 31 + j) (by omega))
  have f10_4 := mf_row (t := fX10_add 33 32 31 t9) f9_3 (fun j hj => w10 2 (16 * 32 + j) (by omega))
  have f10_5 := mf_row (t := fX10_add 33 32 31 t9) f9_4 (fun j hj => w10 2 (16 * 40 + j) (by omega))
  have f10_6 := mf_row (t := fX10_add 33 32 31 t9) f9_5 (fun j hj => w10 2 (16 * 44 + j) (by omega))
  generalize fX10_add 33 32 31 t9 = t10 at w10 v10 f10_0 f10_1 f10_2 f10_3 f10_4 f10_5 f10_6 ⊢
  obtain ⟨w11, v11⟩ := cM_mul (r := 38) v10 v10 (by omega)
  have f11_0 := mf_row (t := fX10_multiply 38 33 33 t10) f10_0 (fun j hj => w11 2 (16 * 28 + j) (by omega) (by omega))
  have f11_1 := mf_row (t := fX10_multiply 38 33 33 t10) f10_1 (fun j hj => w11 2 (16 * 29 + j) (by omega) (by omega))
  have f11_2 := mf_row (t := fX10_multiply 38 33 33 t10) f10_2 (fun j hj => w11 2 (16 * 30 + j) (by omega) (by omega))
  have f11_3 := mf_row (t := fX10_multiply 38 33 33 t10) f10_3 (fun j hj => w11 2 (16 * 31 + j) (by omega) (by omega))
  have f11_4 := mf_row (t := fX10_multiply 38 33 33 t10) f10_4 (fun j hj => w11 2 (16 * 32 + j) (by omega) (by omega))
  have f11_5 := mf_row (t := fX10_multiply 38 33 33 t10) f10_5 (fun j hj => w11 2 (16 * 40 + j) (by omega) (by omega))
  have f11_6 := mf_row (t := fX10_multiply 38 33 33 t10) f10_6 (fun j hj => w11 2 (16 * 44 + j) (by omega) (by omega))
  generalize fX10_multiply 38 33 33 t10 = t11 at w11 v11 f11_0 f11_1 f11_2 f11_3 f11_4 f11_5 f11_6 ⊢
  obtain ⟨w12, v12⟩ := cM_sub (r := 33) f11_4 f11_3 (by omega)
  have f12_0 := mf_row (t := fX10_subtract 33 32 31 t11) f11_0 (fun j hj => w12 2 (16 * 28 + j) (by omega))
  have f12_1 := mf_row (t := fX10_subtract 33 32 31 t11) f11_1 (fun j hj => w12 2 (16 * 29 + j) (by omega))
  have f12_2 := mf_row (t := fX10_subtract 33 32 31 t11) f11_2 (fun j hj => w12 2 (16 * 30 + j) (by omega))
  have f12_3 := mf_row (t := fX10_subtract 33 32 31 t11) v11 (fun j hj => w12 2 (16 * 38 + j) (by omega))
  have f12_4 := mf_row (t := fX10_subtract 33 32 31 t11) f11_5 (fun j hj => w12 2 (16 * 40 + j) (by omega))
  have f12_5 := mf_row (t := fX10_subtract 33 32 31 t11) f11_6 (fun j hj => w12 2 (16 * 44 + j) (by omega))
  generalize fX10_subtract 33 32 31 t11 = t12 at w12 v12 f12_0 f12_1 f12_2 f12_3 f12_4 f12_5 ⊢
  obtain ⟨w13, v13⟩ := cM_mul (r := 33) v12 v12 (by omega)
  have f13_0 := mf_row (t := fX10_multiply 33 33 33 t12) f12_0 (fun j hj => w13 2 (16 * 28 + j) (by omega) (by omega))
  have f13_1 := mf_row (t := fX10_multiply 33 33 33 t12) f12_1 (fun j hj => w13 2 (16 * 29 + j) (by omega) (by omega))
  have f13_2 := mf_row (t := fX10_multiply 33 33 33 t12) f12_2 (fun j hj => w13 2 (16 * 30 + j) (by omega) (by omega))
  have f13_3 := mf_row (t := fX10_multiply 33 33 33 t12) f12_3 (fun j hj => w13 2 (16 * 38 + j) (by omega) (by omega))
  have f13_4 := mf_row (t := fX10_multiply 33 33 33 t12) f12_4 (fun j hj => w13 2 (16 * 40 + j) (by omega) (by omega))
  have f13_5 := mf_row (t := fX10_multiply 33 33 33 t12) f12_5 (fun j hj => w13 2 (16 * 44 + j) (by omega) (by omega))
  generalize fX10_multiply 33 33 33 t12 = t13 at w13 v13 f13_0 f13_1 f13_2 f13_3 f13_4 f13_5 ⊢
  obtain ⟨w14, v14⟩ := cM_mul (r := 39) f13_4 v13 (by omega)
  have f14_0 := mf_row (t := fX10_multiply 39 40 33 t13) f13_0 (fun j hj => w14 2 (16 * 28 + j) (by omega) (by omega))
  have f14_1 := mf_row (t := fX10_multiply 39 40 33 t13) f13_1 (fun j hj => w14 2 (16 * 29 + j) (by omega) (by omega))
  have f14_2 := mf_row (t := fX10_multiply 39 40 33 t13) f13_2 (fun j hj => w14 2 (16 * 30 + j) (by omega) (by omega))
  have f14_3 := mf_row (t := fX10_multiply 39 40 33 t13) f13_3 (fun j hj => w14 2 (16 * 38 + j) (by omega) (by omega))
  have f14_4 := mf_row (t := fX10_multiply 39 40 33 t13) f13_5 (fun j hj => w14 2 (16 * 44 + j) (by omega) (by omega))
  generalize fX10_multiply 39 40 33 t13 = t14 at w14 v14 f14_0 f14_1 f14_2 f14_3 f14_4 ⊢
  obtain ⟨w15, v15⟩ := cM_mul (r := 36) f14_0 f14_1 (by omega)
  have f15_0 := mf_row (t := fX10_multiply 36 28 29 t14) f14_0 (fun j hj => w15 2 (16 * 28 + j) (by omega) (by omega))
  have f15_1 := mf_row (t := fX10_multiply 36 28 29 t14) f14_2 (fun j hj => w15 2 (16 * 30 + j) (by omega) (by omega))
  have f15_2 := mf_row (t := fX10_multiply 36 28 29 t14) f14_3 (fun j hj => w15 2 (16 * 38 + j) (by omega) (by omega))
  have f15_3 := mf_row (t := fX10_multiply 36 28 29 t14) v14 (fun j hj => w15 2 (16 * 39 + j) (by omega) (by omega))
  have f15_4 := mf_row (t := fX10_multiply 36 28 29 t14) f14_4 (fun j hj => w15 2 (16 * 44 + j) (by omega) (by omega))
  generalize fX10_multiply 36 28 29 t14 = t15 at w15 v15 f15_0 f15_1 f15_2 f15_3 f15_4 ⊢
  obtain ⟨w16, v16⟩ := cM_mul (r := 33) f15_4 f15_1 (by omega)
  have f16_0 := mf_row (t := fX10_multiply 33 44 30 t15) f15_0 (fun j hj => w16 2 (16 * 28 + j) (by omega) (by omega))
  have f16_1 := mf_row (t := fX10_multiply 33 44 30 t15) f15_1 (fun j hj => w16 2 (16 * 30 + j) (by omega) (by omega))
  have f16_2 := mf_row (t := fX10_multiply 33 44 30 t15) v15 (fun j hj => w16 2 (16 * 36 + j) (by omega) (by omega))
  have f16_3 := mf_row (t := fX10_multiply 33 44 30 t15) f15_2 (fun j hj => w16 2 (16 * 38 + j) (by omega) (by omega))
  have f16_4 := mf_row (t := fX10_multiply 33 44 30 t15) f15_3 (fun j hj => w16 2 (16 * 39 + j) (by omega) (by omega))
  generalize fX10_multiply 33 44 30 t15 = t16 at w16 v16 f16_0 f16_1 f16_2 f16_3 f16_4 ⊢
  obtain ⟨w17, v17⟩ := cM_add (r := 33) v16 f16_0 (by omega)
  have f17_0 := mf_row (t := fX10_add 33 33 28 t16) f16_1 (fun j hj => w17 2 (16 * 30 + j) (by omega))
  have f17_1 := mf_row (t := fX10_add 33 33 28 t16) f16_2 (fun j hj => w17 2 (16 * 36 + j) (by omega))
  have f17_2 := mf_row (t := fX10_add 33 33 28 t16) f16_3 (fun j hj => w17 2 (16 * 38 + j) (by omega))
  have f17_3 := mf_row (t := fX10_add 33 33 28 t16) f16_4 (fun j hj => w17 2 (16 * 39 + j) (by omega))
  generalize fX10_add 33 33 28 t16 = t17 at w17 v17 f17_0 f17_1 f17_2 f17_3 ⊢
  obtain ⟨w18, v18⟩ := cM_mul (r := 37) f17_0 v17 (by omega)
  have f18_0 := mf_row (t := fX10_multiply 37 30 33 t17) f17_1 (fun j hj => w18 2 (16 * 36 + j) (by omega) (by omega))
  have f18_1 := mf_row (t := fX10_multiply 37 30 33 t17) f17_2 (fun j hj => w18 2 (16 * 38 + j) (by omega) (by omega))
  have f18_2 := mf_row (t := fX10_multiply 37 30 33 t17) f17_3 (fun j hj => w18 2 (16 * 39 + j) (by omega) (by omega))
  generalize fX10_multiply 37 30 33 t17 = t18 at w18 v18 f18_0 f18_1 f18_2 ⊢
  have y1 := mf_eq v18 (rg_v1 ((n1 + n2) * (n1 + n2) - (n1 - n2) * (n1 - n2)) ((n1 + n2) * (n1 + n2)))
  have y2 := mf_eq f18_2 (Int.mul_comm U _)
  exact ⟨fun id j m1 m2 m3 => by rw [w18 id j (by omega) (by omega), w17 id j (by omega), w16 id j (by omega) (by omega), w15 id j (by omega) (by omega), w14 id j (by omega) (by omega), w13 id j (by omega) (by omega), w12 id j (by omega), w11 id j (by omega) (by omega), w10 id j (by omega), w9 id j (by omega) (by omega), w8 id j (by omega) (by omega), w7 id j (by omega), w6 id j (by omega), w5 id j (by omega), w4 id j (by omega) (by omega), w3 id j (by omega) (by omega), w2 id j (by omega), w1 id j (by omega)], f18_0, y1, f18_1, y2⟩
theorem sh_0 {j : Nat} {z : zSt} (h : vX10_bit 20 j z ≠ 1) : fX10_share_108 j z = lsM z := by
  unfold fX10_share_108
  dsimp only
  have e : (if ¬ vX10_bit 20 j z = 1 then 0 else 1) = 0 := if_pos h
  rw [e, if_pos (show nI 0 = 0 from rfl)]
  unfold fX10_share_a5
  dsimp only
  rw [if_pos (show nI 0 = 0 from rfl)]
  rfl
theorem sh_1 {j : Nat} {z : zSt} (h : vX10_bit 20 j z = 1) : fX10_share_108 j z = fX10_swap 37 39 (fX10_swap 36 38 (lsM (fX10_swap 37 39 (fX10_swap 36 38 z)))) := by
  unfold fX10_share_108
  dsimp only
  have e : (if ¬ vX10_bit 20 j z = 1 then 0 else 1) = 1 := if_neg (fun q => q h)
  rw [e, if_neg (show ¬ nI 1 = 0 by decide)]
  unfold fX10_share_a8
  dsimp only
  rw [if_neg (show ¬ nI 1 = 0 by decide)]
  rfl
theorem cM_ladder {s : zSt} {U : Int} (p0 : mf s 36 1 1) (p1 : mf s 37 0 1) (p2 : mf s 38 U 1) (p3 : mf s 39 1 1) (pu : mf s 40 U 1) (pc : mf s 44 121665 1) :
    (∀ id j, id ≠ 3 → ¬ (id = 2 ∧ 416 ≤ j ∧ j < 544) → ¬ (id = 2 ∧ 576 ≤ j ∧ j < 640) → (zdown fX10_share_108 255 s).1 id j = s.1 id j) ∧ mf (zdown fX10_share_108 255 s) 36 (lad U (w4 s 20) 255).1 1 ∧ mf (zdown fX10_share_108 255 s) 37 (lad U (w4 s 20) 255).2.1 1 := by
  have H := zdown_I fX10_share_108 (fun j σ => j ≤ 255 ∧ (∀ id j, id ≠ 3 → ¬ (id = 2 ∧ 416 ≤ j ∧ j < 544) → ¬ (id = 2 ∧ 576 ≤ j ∧ j < 640) → σ.1 id j = s.1 id j) ∧ mf σ 36 (lad U (w4 s 20) (255 - j)).1 1 ∧ mf σ 37 (lad U (w4 s 20) (255 - j)).2.1 1 ∧ mf σ 38 (lad U (w4 s 20) (255 - j)).2.2.1 1 ∧ mf σ 39 (lad U (w4 s 20) (255 - j)).2.2.2 1) ?_ 255 s (by rw [Nat.sub_self, lad_0]; exact ⟨Nat.le_refl _, fun _ _ _ _ _ => rfl, p0, p1, p2, p3⟩)
  · generalize zdown fX10_share_108 255 s = t7 at H ⊢
    obtain ⟨-, q1, q2, q3, -, -⟩ := H
    rw [Nat.sub_zero] at q2 q3
    exact ⟨q1, q2, q3⟩
  intro j σ ⟨q0, q1, q2, q3, q4, q5⟩
  have puσ := mf_row (t := σ) pu (fun i hi => q1 2 (16 * 40 + i) (by omega) (by omega) (by omega))
  have pcσ := mf_row (t := σ) pc (fun i hi => q1 2 (16 * 44 + i) (by omega) (by omega) (by omega))
  have eb : vX10_bit 20 j σ = w4 s 20 / 2 ^ j % 2 := by
    rw [vX10_bit_eq 20 j σ (by omega)]
    show w4 σ 20 / 2 ^ j % 2 = _
    rw [w4_keep (fun i hi => q1 4 (20 + i) (by omega) (by omega) (by omega))]
  generalize w4 s 20 = K at *
  have el : lad U K (255 - j) = lad1 U (K / 2 ^ j % 2) (lad U K (255 - (j + 1))) := by
    have e9 := lad_s U K (255 - (j + 1))
    rw [show 255 - (j + 1) + 1 = 255 - j by omega, show 254 - (255 - (j + 1)) = j by omega] at e9
    exact e9
  rw [el]
  generalize lad U K (255 - (j + 1)) = x at q2 q3 q4 q5 ⊢
  unfold lad1
  by_cases q : K / 2 ^ j % 2 ≠ 1
  · rw [if_pos q, sh_0 (by rw [eb]; exact q)]
    obtain ⟨w1, w2, w3, w4', w5⟩ := cM_step q2 q3 q4 q5 puσ pcσ
    exact ⟨by omega, fun id i r1 r2 r3 => by rw [w1 id i r1 r2 r3, q1 id i r1 r2 r3], w2, w3, w4', w5⟩
  · rw [if_neg q, sh_1 (by rw [eb]; exact Classical.not_not.mp q)]
    obtain ⟨a1, a2, a3⟩ := cM_swap q2 q4 (by omega)
    have b3 := mf_row (t := fX10_swap 36 38 σ) q3 (fun i hi => a1 2 (16 * 37 + i) (by omega) (by omega))
    have b5 := mf_row (t := fX10_swap 36 38 σ) q5 (fun i hi => a1 2 (16 * 39 + i) (by omega) (by omega))
    have bu := mf_row (t := fX10_swap 36 38 σ) puσ (fun i hi => a1 2 (16 * 40 + i) (by omega) (by omega))
    have bc' := mf_row (t := fX10_swap 36 38 σ) pcσ (fun i hi => a1 2 (16 * 44 + i) (by omega) (by omega))
    generalize fX10_swap 36 38 σ = u1 at a1 a2 a3 b3 b5 bu bc' ⊢
    obtain ⟨c1, c2, c3⟩ := cM_swap b3 b5 (by omega)
    have d2 := mf_row (t := fX10_swap 37 39 u1) a2 (fun i hi => c1 2 (16 * 36 + i) (by omega) (by omega))
    have d3 := mf_row (t := fX10_swap 37 39 u1) a3 (fun i hi => c1 2 (16 * 38 + i) (by omega) (by omega))
    have du := mf_row (t := fX10_swap 37 39 u1) bu (fun i hi => c1 2 (16 * 40 + i) (by omega) (by omega))
    have dc := mf_row (t := fX10_swap 37 39 u1) bc' (fun i hi => c1 2 (16 * 44 + i) (by omega) (by omega))
    generalize fX10_swap 37 39 u1 = u2 at c1 c2 c3 d2 d3 du dc ⊢
    obtain ⟨w1, w2, w3, w4', w5⟩ := cM_step d2 c2 d3 c3 du dc
    generalize lsM u2 = u3 at w1 w2 w3 w4' w5 ⊢
    obtain ⟨e1, e2, e3⟩ := cM_swap w2 w4' (by omega)
    have f3 := mf_row (t := fX10_swap 36 38 u3) w3 (fun i hi => e1 2 (16 * 37 + i) (by omega) (by omega))
    have f5 := mf_row (t := fX10_swap 36 38 u3) w5 (fun i hi => e1 2 (16 * 39 + i) (by omega) (by omega))
    generalize fX10_swap 36 38 u3 = u4 at e1 e2 e3 f3 f5 ⊢
    obtain ⟨g1, g2, g3⟩ := cM_swap f3 f5 (by omega)
    have h2 := mf_row (t := fX10_swap 37 39 u4) e2 (fun i hi => g1 2 (16 * 36 + i) (by omega) (by omega))
    have h3 := mf_row (t := fX10_swap 37 39 u4) e3 (fun i hi => g1 2 (16 * 38 + i) (by omega) (by omega))
    exact ⟨by omega, fun id i r1 r2 r3 => by rw [g1 id i (by omega) (by omega), e1 id i (by omega) (by omega), w1 id i r1 r2 r3, c1 id i (by omega) (by omega), a1 id i (by omega) (by omega), q1 id i r1 r2 r3], h2, g2, h3, g3⟩
