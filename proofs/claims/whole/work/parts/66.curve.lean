/-! the curve: -x^2 + y^2 = 1 + d x^2 y^2 over the numbers modulo p; sums are right for all points, and associative -/
theorem as_x (x1 y1 x2 y2 x3 y3 d : Int) : ((x1*y2 + y1*x2)*(1 - d*x1*x2*y1*y2)*y3 + (y1*y2 + x1*x2)*(1 + d*x1*x2*y1*y2)*x3) * ((1 + d*x2*x3*y2*y3)*(1 - d*x2*x3*y2*y3) + d*x1*y1*(x2*y3 + y2*x3)*(y2*y3 + x2*x3)) - (x1*(y2*y3 + x2*x3)*(1 + d*x2*x3*y2*y3) + y1*(x2*y3 + y2*x3)*(1 - d*x2*x3*y2*y3)) * ((1 + d*x1*x2*y1*y2)*(1 - d*x1*x2*y1*y2) + d*(x1*y2 + y1*x2)*(y1*y2 + x1*x2)*x3*y3) = (d*x1*x1*y1*y1 + 1 + x1*x1 - y1*y1) * (x1*x2*x2*x2*x2*y2*y2*y2*x3*x3*y3*d*d + x1*x2*x2*x2*x2*y2*x3*x3*y3*d + x1*x2*x2*x2*y2*y2*y2*y2*x3*y3*y3*d*d + x1*x2*x2*x2*y2*y2*x3*x3*x3*d + x1*x2*x2*x2*y2*y2*x3*d - x1*x2*x2*y2*y2*y2*y3*y3*y3*d + x1*x2*x2*y2*y2*y2*y3*d - x1*x2*y2*y2*y2*y2*x3*y3*y3*d - y1*x2*x2*x2*x2*y2*y2*y2*x3*y3*y3*d*d - y1*x2*x2*x2*x2*y2*x3*y3*y3*d - y1*x2*x2*x2*y2*y2*y2*y2*x3*x3*y3*d*d - y1*x2*x2*x2*y2*y2*y3*y3*y3*d + y1*x2*x2*x2*y2*y2*y3*d + y1*x2*x2*y2*y2*y2*x3*x3*x3*d + y1*x2*x2*y2*y2*y2*x3*d + y1*x2*y2*y2*y2*y2*x3*x3*y3*d) + (d*x2*x2*y2*y2 + 1 + x2*x2 - y2*y2) * (-x1*x1*x1*x2*x2*y2*x3*x3*y3*d - x1*x1*x1*x2*y2*y2*x3*y3*y3*d - x1*x1*x1*x2*x3*x3*x3*y3*y3*d - x1*x1*x1*x2*x3*x3*x3 + x1*x1*x1*x2*x3*y3*y3 - x1*x1*x1*x2*x3 - x1*x1*x1*y2*x3*x3*y3*y3*y3*d - x1*x1*x1*y2*x3*x3*y3 + x1*x1*x1*y2*y3*y3*y3 - x1*x1*x1*y2*y3 - x1*x1*y1*x2*x2*y2*x3*x3*x3*y3*y3*d*d + x1*x1*y1*x2*x2*y2*x3*y3*y3*d + x1*x1*y1*x2*y2*y2*x3*x3*y3*y3*y3*d*d + x1*x1*y1*x2*y2*y2*x3*x3*y3*d - x1*x1*y1*x2*x3*x3*y3*y3*y3*d - x1*x1*y1*x2*x3*x3*y3 + x1*x1*y1*x2*y3*y3*y3 - x1*x1*y1*x2*y3 - x1*x1*y1*y2*x3*x3*x3*y3*y3*d - x1*x1*y1*y2*x3*x3*x3 + x1*x1*y1*y2*x3*y3*y3 - x1*x1*y1*y2*x3 + x1*y1*y1*x2*x2*y2*x3*x3*y3*y3*y3*d*d + x1*y1*y1*x2*x2*y2*x3*x3*y3*d - x1*y1*y1*x2*y2*y2*x3*x3*x3*y3*y3*d*d + x1*y1*y1*x2*y2*y2*x3*y3*y3*d + x1*y1*y1*x2*x3*x3*x3*y3*y3*d + x1*y1*y1*x2*x3*x3*x3 - x1*y1*y1*x2*x3*y3*y3 + x1*y1*y1*x2*x3 + x1*y1*y1*y2*x3*x3*y3*y3*y3*d + x1*y1*y1*y2*x3*x3*y3 - x1*y1*y1*y2*y3*y3*y3 + x1*y1*y1*y2*y3 - x1*x2*x2*y2*x3*x3*y3*d - x1*x2*y2*y2*x3*y3*y3*d - x1*x2*x3*x3*x3*y3*y3*d - x1*x2*x3*x3*x3 + x1*x2*x3*y3*y3 - x1*x2*x3 - x1*y2*x3*x3*y3*y3*y3*d - x1*y2*x3*x3*y3 + x1*y2*y3*y3*y3 - x1*y2*y3 - y1*y1*y1*x2*x2*y2*x3*y3*y3*d - y1*y1*y1*x2*y2*y2*x3*x3*y3*d + y1*y1*y1*x2*x3*x3*y3*y3*y3*d + y1*y1*y1*x2*x3*x3*y3 - y1*y1*y1*x2*y3*y3*y3 + y1*y1*y1*x2*y3 + y1*y1*y1*y2*x3*x3*x3*y3*y3*d + y1*y1*y1*y2*x3*x3*x3 - y1*y1*y1*y2*x3*y3*y3 + y1*y1*y1*y2*x3 + y1*x2*x2*y2*x3*y3*y3*d + y1*x2*y2*y2*x3*x3*y3*d - y1*x2*x3*x3*y3*y3*y3*d - y1*x2*x3*x3*y3 + y1*x2*y3*y3*y3 - y1*x2*y3 - y1*y2*x3*x3*x3*y3*y3*d - y1*y2*x3*x3*x3 + y1*y2*x3*y3*y3 - y1*y2*x3) + (d*x3*x3*y3*y3 + 1 + x3*x3 - y3*y3) * (x1*x1*x1*x2*x2*x2*x3 + x1*x1*x1*x2*x2*y2*y3 - x1*x1*x1*x2*y2*y2*x3 + x1*x1*x1*x2*x3 - x1*x1*x1*y2*y2*y2*y3 + x1*x1*x1*y2*y3 + x1*x1*y1*x2*x2*x2*y3 + x1*x1*y1*x2*x2*y2*x3*d + x1*x1*y1*x2*x2*y2*x3 - x1*x1*y1*x2*y2*y2*y3*d - x1*x1*y1*x2*y2*y2*y3 + x1*x1*y1*x2*y3 - x1*x1*y1*y2*y2*y2*x3 + x1*x1*y1*y2*x3 - x1*y1*y1*x2*x2*x2*x3 - x1*y1*y1*x2*x2*y2*y3*d - x1*y1*y1*x2*x2*y2*y3 + x1*y1*y1*x2*y2*y2*x3*d + x1*y1*y1*x2*y2*y2*x3 - x1*y1*y1*x2*x3 + x1*y1*y1*y2*y2*y2*y3 - x1*y1*y1*y2*y3 + x1*x2*x2*x2*x3 + x1*x2*x2*y2*y3 - x1*x2*y2*y2*x3 + x1*x2*x3 - x1*y2*y2*y2*y3 + x1*y2*y3 - y1*y1*y1*x2*x2*x2*y3 - y1*y1*y1*x2*x2*y2*x3 + y1*y1*y1*x2*y2*y2*y3 - y1*y1*y1*x2*y3 + y1*y1*y1*y2*y2*y2*x3 - y1*y1*y1*y2*x3 + y1*x2*x2*x2*y3 + y1*x2*x2*y2*x3 - y1*x2*y2*y2*y3 + y1*x2*y3 - y1*y2*y2*y2*x3 + y1*y2*x3) := by grind
theorem as_y (x1 y1 x2 y2 x3 y3 d : Int) : ((y1*y2 + x1*x2)*(1 + d*x1*x2*y1*y2)*y3 + (x1*y2 + y1*x2)*(1 - d*x1*x2*y1*y2)*x3) * ((1 + d*x2*x3*y2*y3)*(1 - d*x2*x3*y2*y3) - d*x1*y1*(x2*y3 + y2*x3)*(y2*y3 + x2*x3)) - (y1*(y2*y3 + x2*x3)*(1 + d*x2*x3*y2*y3) + x1*(x2*y3 + y2*x3)*(1 - d*x2*x3*y2*y3)) * ((1 + d*x1*x2*y1*y2)*(1 - d*x1*x2*y1*y2) - d*(x1*y2 + y1*x2)*(y1*y2 + x1*x2)*x3*y3) = (d*x1*x1*y1*y1 + 1 + x1*x1 - y1*y1) * (-x1*x2*x2*x2*x2*y2*y2*y2*x3*y3*y3*d*d - x1*x2*x2*x2*x2*y2*x3*y3*y3*d - x1*x2*x2*x2*y2*y2*y2*y2*x3*x3*y3*d*d - x1*x2*x2*x2*y2*y2*y3*y3*y3*d + x1*x2*x2*x2*y2*y2*y3*d + x1*x2*x2*y2*y2*y2*x3*x3*x3*d + x1*x2*x2*y2*y2*y2*x3*d + x1*x2*y2*y2*y2*y2*x3*x3*y3*d + y1*x2*x2*x2*x2*y2*y2*y2*x3*x3*y3*d*d + y1*x2*x2*x2*x2*y2*x3*x3*y3*d + y1*x2*x2*x2*y2*y2*y2*y2*x3*y3*y3*d*d + y1*x2*x2*x2*y2*y2*x3*x3*x3*d + y1*x2*x2*x2*y2*y2*x3*d - y1*x2*x2*y2*y2*y2*y3*y3*y3*d + y1*x2*x2*y2*y2*y2*y3*d - y1*x2*y2*y2*y2*y2*x3*y3*y3*d) + (d*x2*x2*y2*y2 + 1 + x2*x2 - y2*y2) * (x1*x1*x1*x2*x2*y2*x3*y3*y3*d + x1*x1*x1*x2*y2*y2*x3*x3*y3*d - x1*x1*x1*x2*x3*x3*y3*y3*y3*d - x1*x1*x1*x2*x3*x3*y3 + x1*x1*x1*x2*y3*y3*y3 - x1*x1*x1*x2*y3 - x1*x1*x1*y2*x3*x3*x3*y3*y3*d - x1*x1*x1*y2*x3*x3*x3 + x1*x1*x1*y2*x3*y3*y3 - x1*x1*x1*y2*x3 - x1*x1*y1*x2*x2*y2*x3*x3*y3*y3*y3*d*d - x1*x1*y1*x2*x2*y2*x3*x3*y3*d + x1*x1*y1*x2*y2*y2*x3*x3*x3*y3*y3*d*d - x1*x1*y1*x2*y2*y2*x3*y3*y3*d - x1*x1*y1*x2*x3*x3*x3*y3*y3*d - x1*x1*y1*x2*x3*x3*x3 + x1*x1*y1*x2*x3*y3*y3 - x1*x1*y1*x2*x3 - x1*x1*y1*y2*x3*x3*y3*y3*y3*d - x1*x1*y1*y2*x3*x3*y3 + x1*x1*y1*y2*y3*y3*y3 - x1*x1*y1*y2*y3 + x1*y1*y1*x2*x2*y2*x3*x3*x3*y3*y3*d*d - x1*y1*y1*x2*x2*y2*x3*y3*y3*d - x1*y1*y1*x2*y2*y2*x3*x3*y3*y3*y3*d*d - x1*y1*y1*x2*y2*y2*x3*x3*y3*d + x1*y1*y1*x2*x3*x3*y3*y3*y3*d + x1*y1*y1*x2*x3*x3*y3 - x1*y1*y1*x2*y3*y3*y3 + x1*y1*y1*x2*y3 + x1*y1*y1*y2*x3*x3*x3*y3*y3*d + x1*y1*y1*y2*x3*x3*x3 - x1*y1*y1*y2*x3*y3*y3 + x1*y1*y1*y2*x3 + x1*x2*x2*y2*x3*y3*y3*d + x1*x2*y2*y2*x3*x3*y3*d - x1*x2*x3*x3*y3*y3*y3*d - x1*x2*x3*x3*y3 + x1*x2*y3*y3*y3 - x1*x2*y3 - x1*y2*x3*x3*x3*y3*y3*d - x1*y2*x3*x3*x3 + x1*y2*x3*y3*y3 - x1*y2*x3 + y1*y1*y1*x2*x2*y2*x3*x3*y3*d + y1*y1*y1*x2*y2*y2*x3*y3*y3*d + y1*y1*y1*x2*x3*x3*x3*y3*y3*d + y1*y1*y1*x2*x3*x3*x3 - y1*y1*y1*x2*x3*y3*y3 + y1*y1*y1*x2*x3 + y1*y1*y1*y2*x3*x3*y3*y3*y3*d + y1*y1*y1*y2*x3*x3*y3 - y1*y1*y1*y2*y3*y3*y3 + y1*y1*y1*y2*y3 - y1*x2*x2*y2*x3*x3*y3*d - y1*x2*y2*y2*x3*y3*y3*d - y1*x2*x3*x3*x3*y3*y3*d - y1*x2*x3*x3*x3 + y1*x2*x3*y3*y3 - y1*x2*x3 - y1*y2*x3*x3*y3*y3*y3*d - y1*y2*x3*x3*y3 + y1*y2*y3*y3*y3 - y1*y2*y3) + (d*x3*x3*y3*y3 + 1 + x3*x3 - y3*y3) * (x1*x1*x1*x2*x2*x2*y3 + x1*x1*x1*x2*x2*y2*x3 - x1*x1*x1*x2*y2*y2*y3 + x1*x1*x1*x2*y3 - x1*x1*x1*y2*y2*y2*x3 + x1*x1*x1*y2*x3 + x1*x1*y1*x2*x2*x2*x3 + x1*x1*y1*x2*x2*y2*y3*d + x1*x1*y1*x2*x2*y2*y3 - x1*x1*y1*x2*y2*y2*x3*d - x1*x1*y1*x2*y2*y2*x3 + x1*x1*y1*x2*x3 - x1*x1*y1*y2*y2*y2*y3 + x1*x1*y1*y2*y3 - x1*y1*y1*x2*x2*x2*y3 - x1*y1*y1*x2*x2*y2*x3*d - x1*y1*y1*x2*x2*y2*x3 + x1*y1*y1*x2*y2*y2*y3*d + x1*y1*y1*x2*y2*y2*y3 - x1*y1*y1*x2*y3 + x1*y1*y1*y2*y2*y2*x3 - x1*y1*y1*y2*x3 + x1*x2*x2*x2*y3 + x1*x2*x2*y2*x3 - x1*x2*y2*y2*y3 + x1*x2*y3 - x1*y2*y2*y2*x3 + x1*y2*x3 - y1*y1*y1*x2*x2*x2*x3 - y1*y1*y1*x2*x2*y2*y3 + y1*y1*y1*x2*y2*y2*x3 - y1*y1*y1*x2*x3 + y1*y1*y1*y2*y2*y2*y3 - y1*y1*y1*y2*y3 + y1*x2*x2*x2*x3 + y1*x2*x2*y2*y3 - y1*x2*y2*y2*x3 + y1*x2*x3 - y1*y2*y2*y2*y3 + y1*y2*y3) := by grind
theorem as_c (x1 y1 x2 y2 d : Int) : (y1*y2 + x1*x2)*(y1*y2 + x1*x2)*((1 + d*x1*x2*y1*y2)*(1 + d*x1*x2*y1*y2)) - (x1*y2 + y1*x2)*(x1*y2 + y1*x2)*((1 - d*x1*x2*y1*y2)*(1 - d*x1*x2*y1*y2)) - (1 + d*x1*x2*y1*y2)*(1 + d*x1*x2*y1*y2)*((1 - d*x1*x2*y1*y2)*(1 - d*x1*x2*y1*y2)) - d*((x1*y2 + y1*x2)*(x1*y2 + y1*x2))*((y1*y2 + x1*x2)*(y1*y2 + x1*x2)) = (d*x1*x1*y1*y1 + 1 + x1*x1 - y1*y1) * (-x1*x1*y1*y1*x2*x2*x2*x2*y2*y2*y2*y2*d*d*d + x1*x1*x2*x2*x2*x2*y2*y2*y2*y2*d*d + x1*x1*x2*x2*x2*x2*y2*y2*d - x1*x1*x2*x2*y2*y2*y2*y2*d - y1*y1*x2*x2*x2*x2*y2*y2*y2*y2*d*d - y1*y1*x2*x2*x2*x2*y2*y2*d + y1*y1*x2*x2*y2*y2*y2*y2*d + x2*x2*x2*x2*y2*y2*y2*y2*d*d + 2*x2*x2*x2*x2*y2*y2*y2*y2*d + 2*x2*x2*x2*x2*y2*y2 - x2*x2*x2*x2 - 2*x2*x2*y2*y2*y2*y2 + 2*x2*x2*y2*y2*d + 4*x2*x2*y2*y2 - y2*y2*y2*y2) + (d*x2*x2*y2*y2 + 1 + x2*x2 - y2*y2) * (-x1*x1*x1*x1*x2*x2*y2*y2*d - 2*x1*x1*x2*x2*y2*y2*d - 2*x1*x1*x2*x2*y2*y2 + x1*x1*x2*x2 - x1*x1*y2*y2 - y1*y1*y1*y1*x2*x2*y2*y2*d + 2*y1*y1*x2*x2*y2*y2*d + 2*y1*y1*x2*x2*y2*y2 - y1*y1*x2*x2 + y1*y1*y2*y2 - x2*x2*y2*y2*d - 2*x2*x2*y2*y2 + x2*x2 - y2*y2 - 1) := by grind
def cd : Int := 37095705934669439343138083508754565189542113879843219016388785533085940283555
def cI : Int := 19681161376707505956807079304988542015446066515923890162744021073123829784752
theorem zc0 {a : Int} : zc a 0 ↔ (57896044618658097711785492504343953926634992332820282019728792003956564819949 : Int) ∣ a := by
  constructor
  · rintro ⟨k, h⟩
    exact ⟨k, by omega⟩
  · rintro ⟨k, h⟩
    exact ⟨k, by omega⟩
theorem zc_sub0 {a b : Int} : zc a b ↔ zc (a - b) 0 := ⟨fun ⟨k, h⟩ => ⟨k, by omega⟩, fun ⟨k, h⟩ => ⟨k, by omega⟩⟩
theorem zc_pow {a b : Int} (h : zc a b) : ∀ n : Nat, zc (a ^ n) (b ^ n)
  | 0 => by rw [Int.pow_zero, Int.pow_zero]; exact zc_refl _
  | n + 1 => by
    rw [Int.pow_succ, Int.pow_succ]
    exact zc_mul (zc_pow h n) h
theorem zc_mulL {a b : Int} (c : Int) (h : zc a b) : zc (c * a) (c * b) := zc_mul (zc_refl c) h
theorem zc_mulR {a b : Int} (c : Int) (h : zc a b) : zc (a * c) (b * c) := zc_mul h (zc_refl c)
theorem zc_m0 {a : Int} (c : Int) (h : zc a 0) : zc (a * c) 0 := zc_trans (zc_mulR c h) (zc_of (Int.zero_mul c))
theorem zc_m0' {a : Int} (c : Int) (h : zc a 0) : zc (c * a) 0 := zc_trans (zc_mulL c h) (zc_of (Int.mul_zero c))
theorem zc_neg {a b : Int} (h : zc a b) : zc (-a) (-b) := by
  have := zc_sub (zc_refl 0) h
  rw [Int.zero_sub, Int.zero_sub] at this
  exact this
theorem zc_prime {a b : Int} (h : zc (a * b) 0) : zc a 0 ∨ zc b 0 := by
  rw [zc0] at h
  have h2 := Int.natAbs_dvd_natAbs.mpr h
  rw [Int.natAbs_mul] at h2
  rcases pr_mul pr_p h2 with h3 | h3
  · exact Or.inl (zc0.mpr (Int.natAbs_dvd_natAbs.mp h3))
  · exact Or.inr (zc0.mpr (Int.natAbs_dvd_natAbs.mp h3))
theorem zc_cancel {a x y : Int} (ha : ¬ zc a 0) (h : zc (a * x) (a * y)) : zc x y := by
  rw [zc_sub0, ← Int.mul_sub] at h
  rcases zc_prime h with h2 | h2
  · exact absurd h2 ha
  · exact zc_sub0.mpr h2
theorem zc_mul_ne {a b : Int} (ha : ¬ zc a 0) (hb : ¬ zc b 0) : ¬ zc (a * b) 0 := fun h => (zc_prime h).elim ha hb
theorem zc_ferm {a : Int} (h : ¬ zc a 0) {n : Nat} (hn : n = 57896044618658097711785492504343953926634992332820282019728792003956564819949 - 1) : zc (a ^ n) 1 := by
  obtain ⟨m, hm⟩ : ∃ m : Nat, a % 57896044618658097711785492504343953926634992332820282019728792003956564819949 = (m : Int) := ⟨(a % 57896044618658097711785492504343953926634992332820282019728792003956564819949).toNat, by omega⟩
  have h1 : zc a (m : Int) := zc_trans (zc_symm (zc_mod a)) (zc_of hm)
  have h2 : ¬ (57896044618658097711785492504343953926634992332820282019728792003956564819949 : Nat) ∣ m := fun ⟨k, hk⟩ => h (zc_trans h1 ⟨(k : Int), by omega⟩)
  have h3 := fermat pr_p h2
  rw [← hn] at h3
  refine zc_trans (zc_pow h1 n) ?_
  rw [← Int.natCast_pow]
  generalize m ^ n = X at h3
  exact ⟨((X / 57896044618658097711785492504343953926634992332820282019728792003956564819949 : Nat) : Int), by omega⟩
/-- the inverse, 0 of 0 -/
def iv (z : Int) : Int := z ^ pInv
theorem pInv_1 : pInv + 1 = 57896044618658097711785492504343953926634992332820282019728792003956564819949 - 1 := by decide
theorem iv_mul {z : Int} (h : ¬ zc z 0) : zc (z * iv z) 1 := by
  unfold iv
  generalize hn : pInv = n
  have e : z * z ^ n = z ^ (n + 1) := by rw [Int.pow_succ, Int.mul_comm]
  rw [e]
  exact zc_ferm h (by rw [← hn]; exact pInv_1)
theorem iv_congr {a b : Int} (h : zc a b) : zc (iv a) (iv b) := zc_pow h _
theorem zc_one : ¬ zc 1 0 := fun ⟨k, h⟩ => by omega
theorem zc_two : ¬ zc 2 0 := fun ⟨k, h⟩ => by omega
theorem cI_sq : zc (cI * cI) (-1) := ⟨6690407189080634018507799843845558368979872843924222843531373839242004886245, by decide⟩
theorem cd_e : pwm 57896044618658097711785492504343953926634992332820282019728792003956564819949 255 37095705934669439343138083508754565189542113879843219016388785533085940283555 28948022309329048855892746252171976963317496166410141009864396001978282409974 = 57896044618658097711785492504343953926634992332820282019728792003956564819949 - 1 := by decide +kernel
theorem cd_half : zc (cd ^ 28948022309329048855892746252171976963317496166410141009864396001978282409974) (-1) := by
  have h := cd_e
  rw [pwm_ok 57896044618658097711785492504343953926634992332820282019728792003956564819949 255 37095705934669439343138083508754565189542113879843219016388785533085940283555 28948022309329048855892746252171976963317496166410141009864396001978282409974 (by decide)] at h
  have e : cd = ((37095705934669439343138083508754565189542113879843219016388785533085940283555 : Nat) : Int) := rfl
  rw [e]
  generalize 28948022309329048855892746252171976963317496166410141009864396001978282409974 = n at h ⊢
  rw [← Int.natCast_pow]
  generalize 37095705934669439343138083508754565189542113879843219016388785533085940283555 ^ n = X at h
  exact ⟨((X / 57896044618658097711785492504343953926634992332820282019728792003956564819949 : Nat) : Int) + 1, by omega⟩
theorem cd_ne : ¬ zc cd 0 := by
  rintro ⟨k, h⟩
  unfold cd at h
  omega
theorem half2 : 2 * 28948022309329048855892746252171976963317496166410141009864396001978282409974 = 57896044618658097711785492504343953926634992332820282019728792003956564819949 - 1 := by decide
theorem cd_nsq {u v : Int} (hv : ¬ zc v 0) (h : zc (u * u) (cd * (v * v))) : False := by
  have hh := cd_half
  have h2 := half2
  generalize 28948022309329048855892746252171976963317496166410141009864396001978282409974 = n at hh h2
  have hu : ¬ zc u 0 := fun z => by
    have h3 := zc_trans (zc_symm h) (zc_m0 u z)
    exact zc_mul_ne cd_ne (zc_mul_ne hv hv) h3
  have h4 := zc_pow h n
  have e1 : (u * u) ^ n = u ^ (2 * n) := by rw [Int.mul_pow, ← Int.pow_add]; congr 1; omega
  have e2 : (cd * (v * v)) ^ n = cd ^ n * v ^ (2 * n) := by rw [Int.mul_pow, Int.mul_pow, ← Int.pow_add]; congr 2; omega
  rw [e1, e2] at h4
  have h5 := zc_ferm hu h2
  have h6 := zc_ferm hv h2
  have h7 := zc_trans (zc_symm h5) (zc_trans h4 (zc_mul hh h6))
  obtain ⟨k, hk⟩ := h7
  omega
/-- points -/
def oc (A : Int × Int) : Prop := zc (cd*A.1*A.1*A.2*A.2 + 1 + A.1*A.1 - A.2*A.2) 0
def dl (A B : Int × Int) : Int := cd*A.1*B.1*A.2*B.2
def pe (A B : Int × Int) : Prop := zc A.1 B.1 ∧ zc A.2 B.2
theorem pe_refl (A : Int × Int) : pe A A := ⟨zc_refl _, zc_refl _⟩
theorem pe_symm {A B : Int × Int} (h : pe A B) : pe B A := ⟨zc_symm h.1, zc_symm h.2⟩
theorem pe_trans {A B C : Int × Int} (h : pe A B) (g : pe B C) : pe A C := ⟨zc_trans h.1 g.1, zc_trans h.2 g.2⟩
/-- the sum -/
def ea (A B : Int × Int) : Int × Int := ((A.1*B.2 + A.2*B.1) * iv (1 + dl A B), (A.2*B.2 + A.1*B.1) * iv (1 - dl A B))
theorem zc_a0 {a b : Int} (h : zc a 0) (g : zc b 0) : zc (a + b) 0 := zc_add h g
/-- no sum divides by 0 -/
theorem dl_ne0 {A B : Int × Int} (hA : oc A) (hB : oc B) (e : Int) (he : zc (e * e) 1) (h : zc (dl A B) e) : False := by
  obtain ⟨x1, y1⟩ := A
  obtain ⟨x2, y2⟩ := B
  have hA' : zc (cd*x1*x1*y1*y1 + 1 + x1*x1 - y1*y1) 0 := hA
  have hB' : zc (cd*x2*x2*y2*y2 + 1 + x2*x2 - y2*y2) 0 := hB
  have hd : zc (cd*x1*x2*y1*y2) e := h
  have hne : ¬ zc (cd*x1*x2*y1*y2) 0 := fun z => zc_one (zc_trans (zc_symm he) (zc_m0 e (zc_trans (zc_symm hd) z)))
  have hx1 : ¬ zc x1 0 := fun z => hne (zc_trans (zc_of (show cd*x1*x2*y1*y2 = x1 * (cd*x2*y1*y2) by grind)) (zc_m0 _ z))
  have hy1 : ¬ zc y1 0 := fun z => hne (zc_trans (zc_of (show cd*x1*x2*y1*y2 = y1 * (cd*x2*x1*y2) by grind)) (zc_m0 _ z))
  have hx2 : ¬ zc x2 0 := fun z => hne (zc_trans (zc_of (show cd*x1*x2*y1*y2 = x2 * (cd*x1*y1*y2) by grind)) (zc_m0 _ z))
  have key : ∀ s : Int, zc (s*s) (-1) → zc ((s*x1 + e*y1) * (s*x1 + e*y1)) (cd * ((x1*y1*(s*x2 + y2)) * (x1*y1*(s*x2 + y2)))) := by
    intro s hs
    have id : (s*x1 + e*y1) * (s*x1 + e*y1) - cd * ((x1*y1*(s*x2 + y2)) * (x1*y1*(s*x2 + y2))) = (s*s - -1) * (x1*x1 - cd*x1*x1*y1*y1*x2*x2) + (cd*x1*x2*y1*y2 - e) * (-(2*s*x1*y1 + e + cd*x1*x2*y1*y2)) + (e*e - 1) * (y1*y1 - 1) + (cd*x1*x1*y1*y1 + 1 + x1*x1 - y1*y1) * (-1) + (cd*x2*x2*y2*y2 + 1 + x2*x2 - y2*y2) * (cd*x1*x1*y1*y1) := by grind
    refine zc_sub0.mpr (zc_trans (zc_of id) ?_)
    exact zc_a0 (zc_a0 (zc_a0 (zc_a0 (zc_m0 _ (zc_sub0.mp hs)) (zc_m0 _ (zc_sub0.mp hd))) (zc_m0 _ (zc_sub0.mp he))) (zc_m0 _ hA')) (zc_m0 _ hB')
  by_cases q : zc (cI*x2 + y2) 0
  · have h3 : ¬ zc (-cI*x2 + y2) 0 := fun z => by
      have h4 := zc_sub q z
      rw [show cI*x2 + y2 - (-cI*x2 + y2) = 2 * (cI * x2) by grind] at h4
      have h5 : ¬ zc cI 0 := fun w => by
        have := zc_trans (zc_symm cI_sq) (zc_m0 cI w)
        exact zc_one (zc_trans (zc_of (show (1:Int) = - -1 by decide)) (zc_trans (zc_neg this) (zc_of (by decide))))
      exact zc_mul_ne zc_two (zc_mul_ne h5 hx2) h4
    exact cd_nsq (zc_mul_ne (zc_mul_ne hx1 hy1) h3) (key (-cI) (zc_trans (zc_of (show -cI * -cI = cI * cI by grind)) cI_sq))
  · exact cd_nsq (zc_mul_ne (zc_mul_ne hx1 hy1) q) (key cI cI_sq)
theorem dl_p {A B : Int × Int} (hA : oc A) (hB : oc B) : ¬ zc (1 + dl A B) 0 := fun z => dl_ne0 hA hB (-1) (zc_of (by decide)) (by
  have := zc_sub z (zc_refl 1)
  rw [show 1 + dl A B - 1 = dl A B by omega] at this
  exact this)
theorem dl_m {A B : Int × Int} (hA : oc A) (hB : oc B) : ¬ zc (1 - dl A B) 0 := fun z => dl_ne0 hA hB 1 (zc_of (by decide)) (by
  have := zc_sub (zc_refl 1) z
  rw [show 1 - (1 - dl A B) = dl A B by omega] at this
  exact this)
theorem ea_1 {A B : Int × Int} (hA : oc A) (hB : oc B) : zc ((ea A B).1 * (1 + dl A B)) (A.1*B.2 + A.2*B.1) := by
  show zc ((A.1*B.2 + A.2*B.1) * iv (1 + dl A B) * (1 + dl A B)) _
  rw [Int.mul_assoc, Int.mul_comm (iv _)]
  exact zc_trans (zc_mulL _ (iv_mul (dl_p hA hB))) (zc_of (Int.mul_one _))
theorem ea_2 {A B : Int × Int} (hA : oc A) (hB : oc B) : zc ((ea A B).2 * (1 - dl A B)) (A.2*B.2 + A.1*B.1) := by
  show zc ((A.2*B.2 + A.1*B.1) * iv (1 - dl A B) * (1 - dl A B)) _
  rw [Int.mul_assoc, Int.mul_comm (iv _)]
  exact zc_trans (zc_mulL _ (iv_mul (dl_m hA hB))) (zc_of (Int.mul_one _))
theorem rg_f (c X Y D E : Int) : D*D*(E*E)*(c*X*X*Y*Y + 1 + X*X - Y*Y) = c*((X*D)*(X*D))*((Y*E)*(Y*E)) + D*D*(E*E) + (X*D)*(X*D)*(E*E) - (Y*E)*(Y*E)*(D*D) := by grind
theorem ea_oc {A B : Int × Int} (hA : oc A) (hB : oc B) : oc (ea A B) := by
  have hX := ea_1 hA hB
  have hY := ea_2 hA hB
  have n1 := dl_p hA hB
  have n2 := dl_m hA hB
  show zc (cd*(ea A B).1*(ea A B).1*(ea A B).2*(ea A B).2 + 1 + (ea A B).1*(ea A B).1 - (ea A B).2*(ea A B).2) 0
  generalize (ea A B).1 = X at *
  generalize (ea A B).2 = Y at *
  obtain ⟨x1, y1⟩ := A
  obtain ⟨x2, y2⟩ := B
  have hA' : zc (cd*x1*x1*y1*y1 + 1 + x1*x1 - y1*y1) 0 := hA
  have hB' : zc (cd*x2*x2*y2*y2 + 1 + x2*x2 - y2*y2) 0 := hB
  have hX' : zc (X*(1 + cd*x1*x2*y1*y2)) (x1*y2 + y1*x2) := hX
  have hY' : zc (Y*(1 - cd*x1*x2*y1*y2)) (y1*y2 + x1*x2) := hY
  have n1' : ¬ zc (1 + cd*x1*x2*y1*y2) 0 := n1
  have n2' : ¬ zc (1 - cd*x1*x2*y1*y2) 0 := n2
  refine zc_cancel (zc_mul_ne (zc_mul_ne n1' n1') (zc_mul_ne n2' n2')) ?_
  rw [Int.mul_zero, rg_f]
  refine zc_trans (zc_sub (zc_add (zc_add (zc_mul (zc_mulL cd (zc_mul hX' hX')) (zc_mul hY' hY')) (zc_refl _)) (zc_mulR _ (zc_mul hX' hX'))) (zc_mulR _ (zc_mul hY' hY'))) ?_
  have id := as_c x1 y1 x2 y2 cd
  have h3 := zc_neg (zc_trans (zc_of id) (zc_a0 (zc_m0 _ hA') (zc_m0 _ hB')))
  refine zc_trans (zc_of ?_) h3
  generalize cd*x1*x2*y1*y2 = q
  generalize x1*y2 + y1*x2 = a
  generalize y1*y2 + x1*x2 = b
  generalize cd = d
  grind
theorem pe_ea {A A' B B' : Int × Int} (h : pe A A') (g : pe B B') : pe (ea A B) (ea A' B') := by
  have hd : zc (dl A B) (dl A' B') := zc_mul (zc_mul (zc_mul (zc_mul (zc_refl _) h.1) g.1) h.2) g.2
  exact ⟨zc_mul (zc_add (zc_mul h.1 g.2) (zc_mul h.2 g.1)) (iv_congr (zc_add (zc_refl 1) hd)), zc_mul (zc_add (zc_mul h.2 g.2) (zc_mul h.1 g.1)) (iv_congr (zc_sub (zc_refl 1) hd))⟩
theorem pe_oc {A B : Int × Int} (h : pe A B) (hA : oc A) : oc B :=
  zc_trans (zc_symm (zc_sub (zc_add (zc_add (zc_mul (zc_mul (zc_mul (zc_mul (zc_refl _) h.1) h.1) h.2) h.2) (zc_refl 1)) (zc_mul h.1 h.1)) (zc_mul h.2 h.2))) hA
theorem dl_comm (A B : Int × Int) : dl A B = dl B A := by
  unfold dl
  generalize cd = d
  grind
theorem ea_comm (A B : Int × Int) : ea A B = ea B A := by
  unfold ea
  rw [dl_comm A B, show A.1*B.2 + A.2*B.1 = B.1*A.2 + B.2*A.1 by grind, show A.2*B.2 + A.1*B.1 = B.2*A.2 + B.1*A.1 by grind]
def e0 : Int × Int := (0, 1)
theorem oc_0 : oc e0 := by
  show zc (cd*0*0*1*1 + 1 + 0*0 - 1*1) 0
  exact zc_of (by rw [Int.mul_zero]; decide)
theorem iv_1 : iv 1 = 1 := by
  unfold iv
  exact Int.one_pow
theorem ea_0 (A : Int × Int) : ea e0 A = A := by
  have e : dl e0 A = 0 := by
    show cd*0*A.1*1*A.2 = 0
    rw [Int.mul_zero, Int.zero_mul, Int.zero_mul, Int.zero_mul]
  unfold ea
  rw [e]
  show ((0*A.2 + 1*A.1) * iv 1, (1*A.2 + 0*A.1) * iv 1) = A
  rw [iv_1]
  simp
theorem ea_0' (A : Int × Int) : ea A e0 = A := by rw [ea_comm, ea_0]
def en (A : Int × Int) : Int × Int := (-A.1, A.2)
theorem oc_n {A : Int × Int} (h : oc A) : oc (en A) := by
  have h' : zc (cd*A.1*A.1*A.2*A.2 + 1 + A.1*A.1 - A.2*A.2) 0 := h
  show zc (cd*(-A.1)*(-A.1)*A.2*A.2 + 1 + (-A.1)*(-A.1) - A.2*A.2) 0
  refine zc_trans (zc_of ?_) h'
  generalize cd = d
  grind
theorem ea_n {A : Int × Int} (h : oc A) : pe (ea (en A) A) e0 := by
  have h1 := ea_1 (oc_n h) h
  have h2 := ea_2 (oc_n h) h
  have n1 := dl_p (oc_n h) h
  have n2 := dl_m (oc_n h) h
  constructor
  · show zc _ 0
    refine zc_cancel n1 ?_
    rw [Int.mul_zero, Int.mul_comm]
    refine zc_trans h1 (zc_of ?_)
    show -A.1 * A.2 + A.2 * A.1 = 0
    grind
  · show zc _ 1
    refine zc_cancel n2 ?_
    rw [Int.mul_one, Int.mul_comm]
    refine zc_trans h2 ?_
    have h' : zc (cd*A.1*A.1*A.2*A.2 + 1 + A.1*A.1 - A.2*A.2) 0 := h
    refine zc_sub0.mpr (zc_trans (zc_of ?_) (zc_neg h'))
    show A.2 * A.2 + -A.1 * A.1 - (1 - cd * -A.1 * A.1 * A.2 * A.2) = _
    generalize cd = d
    grind
theorem rg_g (L a b D E c u v : Int) : D*E*(L*(1 + c*a*u*b*v)) = L*(D*E + c*(a*D)*(b*E)*u*v) := by grind
theorem rg_h (L a b D E c u v : Int) : D*E*(L*(1 - c*a*u*b*v)) = L*(D*E - c*(a*D)*(b*E)*u*v) := by grind
theorem rg_i (a b D E u v : Int) : D*E*(a*v + b*u) = (a*D)*E*v + (b*E)*D*u := by grind
theorem rg_j (a b D E c u v e : Int) : D*E*(1 + e*(c*a*u*b*v)) = D*E + e*(c*(a*D)*(b*E)*u*v) := by grind
theorem rg_k (f g D E c x y e : Int) : D*E*(1 + e*(c*x*f*y*g)) = D*E + e*(c*x*y*(f*D)*(g*E)) := by grind
theorem rg_l (L N Q : Int) : L*(N*Q) = N*(L*Q) := by grind
theorem rg_m (f g D E x y : Int) : D*E*(x*g + y*f) = x*(g*E)*D + y*(f*D)*E := by grind
theorem rg_n (a b D E u v : Int) : D*E*(b*v + a*u) = (b*E)*D*v + (a*D)*E*u := by grind
theorem zc_fin {L R U W S T : Int} (hU : ¬ zc U 0) (hW : ¬ zc W 0) (hL : zc (L*U) S) (hR : zc (R*W) T) (h : zc (S*W - T*U) 0) : zc L R := by
  refine zc_cancel (zc_mul_ne hU hW) ?_
  have h1 : zc (U*W*L) (S*W) := zc_trans (zc_of (by grind)) (zc_mulR W hL)
  have h2 : zc (U*W*R) (T*U) := zc_trans (zc_of (by grind)) (zc_mulR U hR)
  exact zc_trans h1 (zc_trans (zc_sub0.mpr h) (zc_symm h2))
theorem ea_assoc {A B C : Int × Int} (hA : oc A) (hB : oc B) (hC : oc C) : pe (ea (ea A B) C) (ea A (ea B C)) := by
  have hX := ea_1 hA hB
  have hY := ea_2 hA hB
  have n1 := dl_p hA hB
  have n2 := dl_m hA hB
  have hF := ea_1 hB hC
  have hG := ea_2 hB hC
  have m1 := dl_p hB hC
  have m2 := dl_m hB hC
  have oX := ea_oc hA hB
  have oY := ea_oc hB hC
  have l1 := ea_1 oX hC
  have l2 := ea_2 oX hC
  have r1 := ea_1 hA oY
  have r2 := ea_2 hA oY
  have p1 := dl_p oX hC
  have p2 := dl_m oX hC
  have q1 := dl_p hA oY
  have q2 := dl_m hA oY
  unfold pe
  generalize ea (ea A B) C = L at *
  generalize ea A (ea B C) = R at *
  generalize ea A B = X at *
  generalize ea B C = Y at *
  obtain ⟨x1, y1⟩ := A
  obtain ⟨x2, y2⟩ := B
  obtain ⟨x3, y3⟩ := C
  obtain ⟨a, b⟩ := X
  obtain ⟨f, g⟩ := Y
  obtain ⟨L1, L2⟩ := L
  obtain ⟨R1, R2⟩ := R
  have hA' : zc (cd*x1*x1*y1*y1 + 1 + x1*x1 - y1*y1) 0 := hA
  have hB' : zc (cd*x2*x2*y2*y2 + 1 + x2*x2 - y2*y2) 0 := hB
  have hC' : zc (cd*x3*x3*y3*y3 + 1 + x3*x3 - y3*y3) 0 := hC
  have hX' : zc (a*(1 + cd*x1*x2*y1*y2)) (x1*y2 + y1*x2) := hX
  have hY' : zc (b*(1 - cd*x1*x2*y1*y2)) (y1*y2 + x1*x2) := hY
  have hF' : zc (f*(1 + cd*x2*x3*y2*y3)) (x2*y3 + y2*x3) := hF
  have hG' : zc (g*(1 - cd*x2*x3*y2*y3)) (y2*y3 + x2*x3) := hG
  have n1' : ¬ zc (1 + cd*x1*x2*y1*y2) 0 := n1
  have n2' : ¬ zc (1 - cd*x1*x2*y1*y2) 0 := n2
  have m1' : ¬ zc (1 + cd*x2*x3*y2*y3) 0 := m1
  have m2' : ¬ zc (1 - cd*x2*x3*y2*y3) 0 := m2
  have p1' : ¬ zc (1 + cd*a*x3*b*y3) 0 := p1
  have p2' : ¬ zc (1 - cd*a*x3*b*y3) 0 := p2
  have q1' : ¬ zc (1 + cd*x1*f*y1*g) 0 := q1
  have q2' : ¬ zc (1 - cd*x1*f*y1*g) 0 := q2
  have l1' : zc (L1*(1 + cd*a*x3*b*y3)) (a*y3 + b*x3) := l1
  have l2' : zc (L2*(1 - cd*a*x3*b*y3)) (b*y3 + a*x3) := l2
  have r1' : zc (R1*(1 + cd*x1*f*y1*g)) (x1*g + y1*f) := r1
  have r2' : zc (R2*(1 - cd*x1*f*y1*g)) (y1*g + x1*f) := r2
  have cU : ∀ e : Int, zc ((1 + cd*x1*x2*y1*y2)*(1 - cd*x1*x2*y1*y2)*(1 + e*(cd*a*x3*b*y3))) ((1 + cd*x1*x2*y1*y2)*(1 - cd*x1*x2*y1*y2) + e*(cd*(x1*y2 + y1*x2)*(y1*y2 + x1*x2)*x3*y3)) := fun e =>
    zc_trans (zc_of (rg_j _ _ _ _ _ _ _ e)) (zc_add (zc_refl _) (zc_mulL e (zc_mulR y3 (zc_mulR x3 (zc_mul (zc_mulL cd hX') hY')))))
  have cW : ∀ e : Int, zc ((1 + cd*x2*x3*y2*y3)*(1 - cd*x2*x3*y2*y3)*(1 + e*(cd*x1*f*y1*g))) ((1 + cd*x2*x3*y2*y3)*(1 - cd*x2*x3*y2*y3) + e*(cd*x1*y1*(x2*y3 + y2*x3)*(y2*y3 + x2*x3))) := fun e =>
    zc_trans (zc_of (rg_k _ _ _ _ _ _ _ e)) (zc_add (zc_refl _) (zc_mulL e (zc_mul (zc_mulL _ hF') hG')))
  have cU1 := cU 1
  have cU2 := cU (-1)
  have cW1 := cW 1
  have cW2 := cW (-1)
  rw [Int.one_mul, Int.one_mul] at cU1 cW1
  rw [Int.neg_one_mul, Int.neg_one_mul, ← Int.sub_eq_add_neg, ← Int.sub_eq_add_neg] at cU2 cW2
  have N := zc_mul_ne n1' n2'
  have M := zc_mul_ne m1' m2'
  have nU1 : ¬ zc ((1 + cd*x1*x2*y1*y2)*(1 - cd*x1*x2*y1*y2) + cd*(x1*y2 + y1*x2)*(y1*y2 + x1*x2)*x3*y3) 0 := fun z => zc_mul_ne N p1' (zc_trans cU1 z)
  have nU2 : ¬ zc ((1 + cd*x1*x2*y1*y2)*(1 - cd*x1*x2*y1*y2) - cd*(x1*y2 + y1*x2)*(y1*y2 + x1*x2)*x3*y3) 0 := fun z => zc_mul_ne N p2' (zc_trans cU2 z)
  have nW1 : ¬ zc ((1 + cd*x2*x3*y2*y3)*(1 - cd*x2*x3*y2*y3) + cd*x1*y1*(x2*y3 + y2*x3)*(y2*y3 + x2*x3)) 0 := fun z => zc_mul_ne M q1' (zc_trans cW1 z)
  have nW2 : ¬ zc ((1 + cd*x2*x3*y2*y3)*(1 - cd*x2*x3*y2*y3) - cd*x1*y1*(x2*y3 + y2*x3)*(y2*y3 + x2*x3)) 0 := fun z => zc_mul_ne M q2' (zc_trans cW2 z)
  constructor
  · show zc L1 R1
    refine zc_fin nU1 nW1 (S := (x1*y2 + y1*x2)*(1 - cd*x1*x2*y1*y2)*y3 + (y1*y2 + x1*x2)*(1 + cd*x1*x2*y1*y2)*x3) (T := x1*(y2*y3 + x2*x3)*(1 + cd*x2*x3*y2*y3) + y1*(x2*y3 + y2*x3)*(1 - cd*x2*x3*y2*y3)) ?_ ?_ (zc_trans (zc_of (as_x x1 y1 x2 y2 x3 y3 cd)) (zc_a0 (zc_a0 (zc_m0 _ hA') (zc_m0 _ hB')) (zc_m0 _ hC')))
    · refine zc_trans (zc_mulL L1 (zc_symm cU1)) (zc_trans (zc_of (rg_l _ _ _)) (zc_trans (zc_mulL _ l1') ?_))
      exact zc_trans (zc_of (rg_i _ _ _ _ _ _)) (zc_add (zc_mulR _ (zc_mulR _ hX')) (zc_mulR _ (zc_mulR _ hY')))
    · refine zc_trans (zc_mulL R1 (zc_symm cW1)) (zc_trans (zc_of (rg_l _ _ _)) (zc_trans (zc_mulL _ r1') ?_))
      exact zc_trans (zc_of (rg_m _ _ _ _ _ _)) (zc_add (zc_mulR _ (zc_mulL _ hG')) (zc_mulR _ (zc_mulL _ hF')))
  · show zc L2 R2
    refine zc_fin nU2 nW2 (S := (y1*y2 + x1*x2)*(1 + cd*x1*x2*y1*y2)*y3 + (x1*y2 + y1*x2)*(1 - cd*x1*x2*y1*y2)*x3) (T := y1*(y2*y3 + x2*x3)*(1 + cd*x2*x3*y2*y3) + x1*(x2*y3 + y2*x3)*(1 - cd*x2*x3*y2*y3)) ?_ ?_ (zc_trans (zc_of (as_y x1 y1 x2 y2 x3 y3 cd)) (zc_a0 (zc_a0 (zc_m0 _ hA') (zc_m0 _ hB')) (zc_m0 _ hC')))
    · refine zc_trans (zc_mulL L2 (zc_symm cU2)) (zc_trans (zc_of (rg_l _ _ _)) (zc_trans (zc_mulL _ l2') ?_))
      exact zc_trans (zc_of (rg_n _ _ _ _ _ _)) (zc_add (zc_mulR _ (zc_mulR _ hY')) (zc_mulR _ (zc_mulR _ hX')))
    · refine zc_trans (zc_mulL R2 (zc_symm cW2)) (zc_trans (zc_of (rg_l _ _ _)) (zc_trans (zc_mulL _ r2') ?_))
      exact zc_trans (zc_of (rg_m _ _ _ _ _ _)) (zc_add (zc_mulR _ (zc_mulL _ hG')) (zc_mulR _ (zc_mulL _ hF')))
/-- multiples -/
def sm (A : Int × Int) : Nat → Int × Int
  | 0 => e0
  | n + 1 => ea (sm A n) A
theorem sm_oc {A : Int × Int} (h : oc A) : ∀ n, oc (sm A n)
  | 0 => oc_0
  | n + 1 => ea_oc (sm_oc h n) h
theorem sm_add {A : Int × Int} (h : oc A) (m : Nat) : ∀ n, pe (sm A (m + n)) (ea (sm A m) (sm A n))
  | 0 => by
    show pe (sm A m) (ea (sm A m) e0)
    rw [ea_0']
    exact pe_refl _
  | n + 1 => by
    show pe (ea (sm A (m + n)) A) (ea (sm A m) (ea (sm A n) A))
    exact pe_trans (pe_ea (sm_add h m n) (pe_refl A)) (ea_assoc (sm_oc h m) (sm_oc h n) h)
theorem sm_congr {A B : Int × Int} (h : pe A B) : ∀ n, pe (sm A n) (sm B n)
  | 0 => pe_refl _
  | n + 1 => pe_ea (sm_congr h n) h
theorem ea_four {A B C D : Int × Int} (hA : oc A) (hB : oc B) (hC : oc C) (hD : oc D) : pe (ea (ea A B) (ea C D)) (ea (ea A C) (ea B D)) := by
  have h1 := ea_assoc hA hB (ea_oc hC hD)
  have h2 := pe_symm (ea_assoc hB hC hD)
  have h3 := ea_assoc hC hB hD
  rw [ea_comm C B] at h3
  have h4 := pe_symm (ea_assoc hA hC (ea_oc hB hD))
  exact pe_trans h1 (pe_trans (pe_ea (pe_refl A) (pe_trans h2 h3)) h4)
theorem sm_ea {A B : Int × Int} (hA : oc A) (hB : oc B) : ∀ n, pe (sm (ea A B) n) (ea (sm A n) (sm B n))
  | 0 => by
    show pe e0 (ea e0 e0)
    rw [ea_0]
    exact pe_refl _
  | n + 1 => pe_trans (pe_ea (sm_ea hA hB n) (pe_refl _)) (ea_four (sm_oc hA n) (sm_oc hB n) hA hB)
