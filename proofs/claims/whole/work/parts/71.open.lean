/-! bytes to points in the reference -/
theorem op_63 (p : Nat) (x2 : Int64) (t : zSt) : fX10_open_a6 p x2 t = fX10_open_a3 p x2 t := by
  unfold fX10_open_a6 fX10_open_a3
  dsimp only
  by_cases h : lg_cmp ((zfst (fX10_lowest p t)).toInt64) x2 = 0
  · rw [if_pos h, if_pos h]
    rfl
  · rw [if_neg h, if_neg h]
    rfl
theorem op_31 {p : Nat} {x2 : Int64} {t : zSt} (h : lg_cmp ((zfst (fX10_lowest p t)).toInt64) x2 = 0) : fX10_open_a3 p x2 t = (true, fX10_multiply (p + 3) p (p + 1) (fX10_put (p + 2) 1 (zsnd (fX10_lowest p t)))) := by
  unfold fX10_open_a3
  dsimp only
  rw [if_pos h]
  rfl
theorem op_32 {p : Nat} {x2 : Int64} {t : zSt} (h : ¬ lg_cmp ((zfst (fX10_lowest p t)).toInt64) x2 = 0) : fX10_open_a3 p x2 t = (true, fX10_multiply (p + 3) p (p + 1) (fX10_put (p + 2) 1 (fX10_reduce p (fX10_subtract p 0 p (zsnd (fX10_lowest p t)))))) := by
  unfold fX10_open_a3
  dsimp only
  rw [if_neg h]
  rfl
theorem nI2 : ∀ b, b < 2 → tN ((nI b).toInt64) = b := by decide
theorem cM_comp {s : zSt} {p : Nat} {x y : Int} (fx : mf s p x 1) (fy : mf s (p + 1) y 1) (ho : oc (x, y)) : (∀ id j, id ≠ 3 → ¬ (id = 2 ∧ 16 * p + 32 ≤ j ∧ j < 16 * p + 64) → (fX10_multiply (p + 3) p (p + 1) (fX10_put (p + 2) 1 s)).1 id j = s.1 id j) ∧ rM (fX10_multiply (p + 3) p (p + 1) (fX10_put (p + 2) 1 s)) p (x, y) ∧ mf (fX10_multiply (p + 3) p (p + 1) (fX10_put (p + 2) 1 s)) p x 1 ∧ mf (fX10_multiply (p + 3) p (p + 1) (fX10_put (p + 2) 1 s)) (p + 1) y 1 := by
  obtain ⟨a1, a2⟩ := cM_put (s := s) (r := p + 2) (v := 1) (by decide) (by decide)
  have fx1 := mf_row (t := fX10_put (p + 2) 1 s) fx (fun j hj => a1 2 (16 * p + j) (by omega))
  have fy1 := mf_row (t := fX10_put (p + 2) 1 s) fy (fun j hj => a1 2 (16 * (p + 1) + j) (by omega))
  generalize fX10_put (p + 2) 1 s = t1 at a1 a2 fx1 fy1 ⊢
  obtain ⟨b1, b2⟩ := cM_mul (r := p + 3) fx1 fy1 (by omega)
  have fx2 := mf_row (t := fX10_multiply (p + 3) p (p + 1) t1) fx1 (fun j hj => b1 2 (16 * p + j) (by omega) (by omega))
  have fy2 := mf_row (t := fX10_multiply (p + 3) p (p + 1) t1) fy1 (fun j hj => b1 2 (16 * (p + 1) + j) (by omega) (by omega))
  have fz2 := mf_row (t := fX10_multiply (p + 3) p (p + 1) t1) a2 (fun j hj => b1 2 (16 * (p + 2) + j) (by omega) (by omega))
  generalize fX10_multiply (p + 3) p (p + 1) t1 = t2 at b1 b2 fx2 fy2 fz2 ⊢
  exact ⟨fun id j n1 n2 => by rw [b1 id j n1 (by omega), a1 id j (by omega)], ⟨ho, 1, zc_one, mf_eq fx2 (Int.mul_one _).symm, mf_eq fy2 (Int.mul_one _).symm, mf_eq fz2 (by decide), mf_eq b2 (Int.mul_one _).symm⟩, fx2, fy2⟩
theorem cM_tail {t : zSt} {p N : Nat} {x2 : Int64} {c y : Int} (fx : mf t p c 1) (fy : mf t (p + 1) y 1) (h0 : mf t 0 0 1) (hx : tN x2 = N / 2 ^ 255 % 2) (ho : oc (rxf N c, y)) (hp : 4 < p ∧ p + 3 < 33) :
    zfst (fX10_open_a3 p x2 t) = true ∧ (∀ id j, id ≠ 3 → ¬ (id = 2 ∧ 544 ≤ j ∧ j < 560) → ¬ (id = 2 ∧ 16 * p ≤ j ∧ j < 16 * p + 64) → ¬ (id = 4 ∧ 24 ≤ j ∧ j < 28) → (zsnd (fX10_open_a3 p x2 t)).1 id j = t.1 id j) ∧ rM (zsnd (fX10_open_a3 p x2 t)) p (rxf N c, y) ∧ mf (zsnd (fX10_open_a3 p x2 t)) p (rxf N c) 1 ∧ mf (zsnd (fX10_open_a3 p x2 t)) (p + 1) y 1 := by
  obtain ⟨l1, l2⟩ := cM_lowest fx (by omega)
  have hc : lg_cmp ((zfst (fX10_lowest p t)).toInt64) x2 = 0 ↔ c % 57896044618658097711785492504343953926634992332820282019728792003956564819949 % 2 = ((N / 2 ^ 255 % 2 : Nat) : Int) := by
    rw [ucmp_eq, l2, hx]
    generalize c % 57896044618658097711785492504343953926634992332820282019728792003956564819949 = w
    rcases Int.emod_two_eq w with q | q
    · rw [q]
      have : tN ((nI (0 : Int).toNat).toInt64) = 0 := nI2 0 (by omega)
      rw [this]
      omega
    · rw [q]
      have : tN ((nI (1 : Int).toNat).toInt64) = 1 := nI2 1 (by omega)
      rw [this]
      omega
  have h1 := @op_31 p x2 t
  have h2 := @op_32 p x2 t
  rw [hc] at h1 h2
  have fx1 := mf_row (t := zsnd (fX10_lowest p t)) fx (fun j hj => l1 2 (16 * p + j) (by omega) (by omega) (by omega))
  have fy1 := mf_row (t := zsnd (fX10_lowest p t)) fy (fun j hj => l1 2 (16 * (p + 1) + j) (by omega) (by omega) (by omega))
  have h01 := mf_row (t := zsnd (fX10_lowest p t)) h0 (fun j hj => l1 2 (16 * 0 + j) (by omega) (by omega) (by omega))
  clear l2 hc
  generalize zsnd (fX10_lowest p t) = t1 at l1 h1 h2 fx1 fy1 h01
  by_cases q : c % 57896044618658097711785492504343953926634992332820282019728792003956564819949 % 2 = ((N / 2 ^ 255 % 2 : Nat) : Int)
  · have e : rxf N c = c := if_pos q
    rw [e] at ho ⊢
    rw [h1 q]
    simp only [zfst_mk, zsnd_mk]
    obtain ⟨c1, c2, c3, c4⟩ := cM_comp fx1 fy1 ho
    exact ⟨trivial, fun id j n1 n2 n3 n4 => by rw [c1 id j n1 (by omega), l1 id j n1 n2 n4], c2, c3, c4⟩
  · have e : rxf N c = -c := if_neg q
    rw [e] at ho ⊢
    rw [h2 q]
    simp only [zfst_mk, zsnd_mk]
    obtain ⟨a1, a2⟩ := cM_sub (r := p) h01 fx1 (by omega)
    have fy2 := mf_row (t := fX10_subtract p 0 p t1) fy1 (fun j hj => a1 2 (16 * (p + 1) + j) (by omega))
    generalize fX10_subtract p 0 p t1 = t2 at a1 a2 fy2 ⊢
    obtain ⟨b1, b2⟩ := cM_reduce a2 (by omega)
    have fy3 := mf_row (t := fX10_reduce p t2) fy2 (fun j hj => b1 2 (16 * (p + 1) + j) (by omega))
    generalize fX10_reduce p t2 = t3 at b1 b2 fy3 ⊢
    obtain ⟨c1, c2, c3, c4⟩ := cM_comp (mf_eq b2 (Int.zero_sub c)) fy3 ho
    exact ⟨trivial, fun id j n1 n2 n3 n4 => by rw [c1 id j n1 (by omega), b1 id j (by omega), a1 id j (by omega), l1 id j n1 n2 n4], c2, c3, c4⟩
theorem op_a {p q : Nat} {s t1 t3 : zSt} (e1 : t1 = fX10_words 12 (s.1 4 q) (s.1 4 (q + 1)) (s.1 4 (q + 2)) (s.1 4 (q + 3)) s) (e3 : t3 = zW t1 4 15 (t1.1 4 15 &&& 9223372036854775807)) (h : ¬ vX10_against 12 36 t3 < 0) : fX10_open p q s = (false, t3) := by
  unfold fX10_open
  dsimp only
  rw [← e1, ← e3, if_neg h]
  rfl
theorem op_b {p q : Nat} {s t1 t3 : zSt} (e1 : t1 = fX10_words 12 (s.1 4 q) (s.1 4 (q + 1)) (s.1 4 (q + 2)) (s.1 4 (q + 3)) s) (e3 : t3 = zW t1 4 15 (t1.1 4 15 &&& 9223372036854775807)) (h : vX10_against 12 36 t3 < 0) : fX10_open p q s = fX10_open_a11 p (zus (t1.1 4 15) 63) t3 := by
  unfold fX10_open
  dsimp only
  rw [← e1, ← e3, if_pos h]
theorem op_c {p : Nat} {x2 : Int64} {t3 t12 : zSt} (e : t12 = fX10_multiply 43 43 41 (fX10_invert 41 42 (fX10_subtract 43 41 1 (fX10_add 42 42 1 (fX10_multiply 42 41 2 (fX10_multiply 41 (p + 1) (p + 1) (fX10_unpack (p + 1) 12 t3))))))) : (zfst (fX10_roots p 43 t12) = true → fX10_open_a11 p x2 t3 = fX10_open_a9 p x2 (zsnd (fX10_roots p 43 t12))) ∧ (zfst (fX10_roots p 43 t12) = false → fX10_open_a11 p x2 t3 = (false, zsnd (fX10_roots p 43 t12))) := by
  constructor
  · intro h
    unfold fX10_open_a11
    dsimp only
    rw [← e, h, cond_true]
  · intro h
    unfold fX10_open_a11
    dsimp only
    rw [← e, h, cond_false]
    rfl
theorem op_d {p : Nat} {x2 : Int64} {t : zSt} : (zfst (fX10_isSame p 0 t) = false → fX10_open_a9 p x2 t = fX10_open_a3 p x2 (zsnd (fX10_isSame p 0 t))) ∧ (zfst (fX10_isSame p 0 t) = true → ¬ lg_cmp x2 1 = 0 → fX10_open_a9 p x2 t = fX10_open_a3 p x2 (zsnd (fX10_isSame p 0 t))) ∧ (zfst (fX10_isSame p 0 t) = true → lg_cmp x2 1 = 0 → fX10_open_a9 p x2 t = (false, zsnd (fX10_isSame p 0 t))) := by
  refine ⟨fun h => ?_, fun h h2 => ?_, fun h h2 => ?_⟩
  · unfold fX10_open_a9
    dsimp only
    rw [h, cond_false]
  · unfold fX10_open_a9
    dsimp only
    rw [h, cond_true]
    unfold fX10_open_a8
    rw [if_pos h2, op_63]
  · unfold fX10_open_a9
    dsimp only
    rw [h, cond_true]
    unfold fX10_open_a8
    rw [if_neg (fun z => z h2)]
    rfl
theorem cM_inv {s : zSt} {r a k : Nat} {x : Int} (fa : mf s a x k) (hk : k ≤ 32) (hr : r ≠ 35) (hr2 : r ≠ 45) :
    (∀ id j, id ≠ 3 → ¬ (id = 2 ∧ 16 * r ≤ j ∧ j < 16 * r + 16) → ¬ (id = 2 ∧ 560 ≤ j ∧ j < 576) → ¬ (id = 2 ∧ 720 ≤ j ∧ j < 736) → ¬ (id = 4 ∧ j < 4) → (fX10_invert r a s).1 id j = s.1 id j) ∧ mf (fX10_invert r a s) r (iv x) 1 := cM_invert fa hk hr hr2
theorem cM_open0 {s : zSt} {p q N : Nat} {b : Bool} {c : Int} (hN : w4 s q = N) (hbc : rtv pRt cI (rwv (ry N)) = (b, c)) (hk : kM s) (hp : 4 < p ∧ p + 3 < 33) :
    (∀ id j, id ≠ 3 → ¬ (id = 2 ∧ 528 ≤ j ∧ j < 576) → ¬ (id = 2 ∧ 656 ≤ j ∧ j < 736) → ¬ (id = 2 ∧ 16 * p ≤ j ∧ j < 16 * p + 64) → ¬ (id = 4 ∧ j < 4) → ¬ (id = 4 ∧ 12 ≤ j ∧ j < 28) → (zsnd (fX10_open p q s)).1 id j = s.1 id j) ∧ zfst (fX10_open p q s) = rokf N b c
      ∧ (rokf N b c = true → rM (zsnd (fX10_open p q s)) p (rxf N c, ry N) ∧ mf (zsnd (fX10_open p q s)) p (rxf N c) 1 ∧ mf (zsnd (fX10_open p q s)) (p + 1) (ry N) 1) := by
  obtain ⟨w1, -, -, -, w15⟩ := cM_words (s := s) 12 (s.1 4 q) (s.1 4 (q + 1)) (s.1 4 (q + 2)) (s.1 4 (q + 3))
  have w2 := cM_words_v (s := s) 12 (s.1 4 q) (s.1 4 (q + 1)) (s.1 4 (q + 2)) (s.1 4 (q + 3))
  have hA := fun t3 => @op_a p q s (fX10_words 12 (s.1 4 q) (s.1 4 (q + 1)) (s.1 4 (q + 2)) (s.1 4 (q + 3)) s) t3 rfl
  have hB := fun t3 => @op_b p q s (fX10_words 12 (s.1 4 q) (s.1 4 (q + 1)) (s.1 4 (q + 2)) (s.1 4 (q + 3)) s) t3 rfl
  generalize fX10_words 12 (s.1 4 q) (s.1 4 (q + 1)) (s.1 4 (q + 2)) (s.1 4 (q + 3)) s = t1 at w1 w2 w15 hA hB
  have eN : w4 t1 12 = N := by
    rw [w2, ← hN]
    unfold w4
    rw [rN_4]
    rfl
  have e15 : w4 (zW t1 4 15 (t1.1 4 15 &&& 9223372036854775807)) 12 = N % 2 ^ 255 := by
    rw [← eN]
    unfold w4
    rw [← m63]
    refine rN_congr (fun i hi => ?_)
    rw [zW_at]
    by_cases e : i = 3
    · rw [e, pk_uLs, pk_uLs]
    · rw [pk_uLn (by omega), pk_uLn e]
  have f3 : ∀ id j, ¬ (id = 4 ∧ 12 ≤ j ∧ j < 16) → (zW t1 4 15 (t1.1 4 15 &&& 9223372036854775807)).1 id j = s.1 id j := fun id j h => by
    by_cases e : id = 4
    · subst e
      rw [zW_at, pk_uLn (by omega)]
      exact w1 4 j (by omega)
    · rw [zW_ne _ _ _ e]
      exact w1 id j (by omega)
  have hA := hA _ rfl
  have hB := hB _ rfl
  have hlt : N < 2 ^ 256 := by rw [← hN]; exact rN_lt _ 4
  have ex2 : tN (zus (t1.1 4 15) 63) = N / 2 ^ 255 % 2 := by
    have h1 := mq_zus (t1.1 4 15) (k := 63) (by omega)
    have h2 := eN
    unfold w4 at h2
    rw [rN_4] at h2
    have h0 := tN_lt (t1.1 4 (12 + 0))
    have h3 := tN_lt (t1.1 4 (12 + 1))
    have h4 := tN_lt (t1.1 4 (12 + 2))
    have h5 := tN_lt (t1.1 4 (12 + 3))
    rw [h1]
    have h6 : t1.1 4 15 = t1.1 4 (12 + 3) := rfl
    rw [h6]
    omega
  generalize zus (t1.1 4 15) 63 = x2 at hB ex2
  generalize zW t1 4 15 (t1.1 4 15 &&& 9223372036854775807) = t3 at e15 f3 hA hB
  have hk3 := kM_row (t := t3) hk (fun j _ => f3 2 j (by omega)) (fun j h1 h2 => f3 4 j (by omega))
  have eo : vX10_against 12 36 t3 < 0 ↔ N % 2 ^ 255 < 57896044618658097711785492504343953926634992332820282019728792003956564819949 := by
    rw [vX10_against_eq, cmp3_lt, e15, hk3.2.2.2.2.2.1]
  by_cases q0 : N % 2 ^ 255 < 57896044618658097711785492504343953926634992332820282019728792003956564819949
  · rw [hB (eo.mpr q0)]
    have hC := fun t12 => @op_c p x2 t3 t12
    have hC := hC _ rfl
    obtain ⟨k0, k1, k2, k3, k4, -, -⟩ := hk3
    obtain ⟨u1, u2⟩ := cM_unpack (s := t3) (r := p + 1) (p := 12)
    rw [e15] at u2
    have u2 : mf (fX10_unpack (p + 1) 12 t3) (p + 1) (ry N) 1 := mf_eq u2 (by unfold ry; rw [Nat.mod_mod])
    have j0 := mf_row (t := fX10_unpack (p + 1) 12 t3) k0 (fun j hj => u1 2 (16 * 0 + j) (by omega))
    have j1 := mf_row (t := fX10_unpack (p + 1) 12 t3) k1 (fun j hj => u1 2 (16 * 1 + j) (by omega))
    have j2 := mf_row (t := fX10_unpack (p + 1) 12 t3) k2 (fun j hj => u1 2 (16 * 2 + j) (by omega))
    have j4 := mf_row (t := fX10_unpack (p + 1) 12 t3) k4 (fun j hj => u1 2 (16 * 4 + j) (by omega))
    generalize fX10_unpack (p + 1) 12 t3 = u0 at u1 u2 j0 j1 j2 j4 hC
    obtain ⟨o1, v1⟩ := cM_mul (r := 41) u2 u2 (by omega)
    have f1_0 := mf_row (t := fX10_multiply 41 (p + 1) (p + 1) u0) j0 (fun j hj => o1 2 (16 * 0 + j) (by omega) (by omega))
    have f1_1 := mf_row (t := fX10_multiply 41 (p + 1) (p + 1) u0) j1 (fun j hj => o1 2 (16 * 1 + j) (by omega) (by omega))
    have f1_2 := mf_row (t := fX10_multiply 41 (p + 1) (p + 1) u0) j2 (fun j hj => o1 2 (16 * 2 + j) (by omega) (by omega))
    have f1_3 := mf_row (t := fX10_multiply 41 (p + 1) (p + 1) u0) j4 (fun j hj => o1 2 (16 * 4 + j) (by omega) (by omega))
    have f1_4 := mf_row (t := fX10_multiply 41 (p + 1) (p + 1) u0) u2 (fun j hj => o1 2 (16 * (p + 1) + j) (by omega) (by omega))
    generalize fX10_multiply 41 (p + 1) (p + 1) u0 = t1 at o1 v1 f1_0 f1_1 f1_2 f1_3 f1_4 hC
    obtain ⟨o2, v2⟩ := cM_mul (r := 42) v1 f1_2 (by omega)
    have f2_0 := mf_row (t := fX10_multiply 42 41 2 t1) f1_0 (fun j hj => o2 2 (16 * 0 + j) (by omega) (by omega))
    have f2_1 := mf_row (t := fX10_multiply 42 41 2 t1) f1_1 (fun j hj => o2 2 (16 * 1 + j) (by omega) (by omega))
    have f2_2 := mf_row (t := fX10_multiply 42 41 2 t1) f1_3 (fun j hj => o2 2 (16 * 4 + j) (by omega) (by omega))
    have f2_3 := mf_row (t := fX10_multiply 42 41 2 t1) v1 (fun j hj => o2 2 (16 * 41 + j) (by omega) (by omega))
    have f2_4 := mf_row (t := fX10_multiply 42 41 2 t1) f1_4 (fun j hj => o2 2 (16 * (p + 1) + j) (by omega) (by omega))
    generalize fX10_multiply 42 41 2 t1 = t2 at o2 v2 f2_0 f2_1 f2_2 f2_3 f2_4 hC
    obtain ⟨o3, v3⟩ := cM_add (r := 42) v2 f2_1 (by omega)
    have f3_0 := mf_row (t := fX10_add 42 42 1 t2) f2_0 (fun j hj => o3 2 (16 * 0 + j) (by omega))
    have f3_1 := mf_row (t := fX10_add 42 42 1 t2) f2_1 (fun j hj => o3 2 (16 * 1 + j) (by omega))
    have f3_2 := mf_row (t := fX10_add 42 42 1 t2) f2_2 (fun j hj => o3 2 (16 * 4 + j) (by omega))
    have f3_3 := mf_row (t := fX10_add 42 42 1 t2) f2_3 (fun j hj => o3 2 (16 * 41 + j) (by omega))
    have f3_4 := mf_row (t := fX10_add 42 42 1 t2) f2_4 (fun j hj => o3 2 (16 * (p + 1) + j) (by omega))
    generalize fX10_add 42 42 1 t2 = t3 at o3 v3 f3_0 f3_1 f3_2 f3_3 f3_4 hC
    obtain ⟨o4, v4⟩ := cM_sub (r := 43) f3_3 f3_1 (by omega)
    have f4_0 := mf_row (t := fX10_subtract 43 41 1 t3) f3_0 (fun j hj => o4 2 (16 * 0 + j) (by omega))
    have f4_1 := mf_row (t := fX10_subtract 43 41 1 t3) f3_2 (fun j hj => o4 2 (16 * 4 + j) (by omega))
    have f4_2 := mf_row (t := fX10_subtract 43 41 1 t3) f3_3 (fun j hj => o4 2 (16 * 41 + j) (by omega))
    have f4_3 := mf_row (t := fX10_subtract 43 41 1 t3) v3 (fun j hj => o4 2 (16 * 42 + j) (by omega))
    have f4_4 := mf_row (t := fX10_subtract 43 41 1 t3) f3_4 (fun j hj => o4 2 (16 * (p + 1) + j) (by omega))
    generalize fX10_subtract 43 41 1 t3 = t4 at o4 v4 f4_0 f4_1 f4_2 f4_3 f4_4 hC
    have d42 := mf_eq f4_3 (show ry N * ry N * cd + 1 = cd * (ry N * ry N) + 1 by rw [Int.mul_comm cd])
    obtain ⟨i1, i2⟩ := cM_inv (r := 41) d42 (by omega) (by omega) (by omega)
    have g0 := mf_row (t := fX10_invert 41 42 t4) f4_4 (fun j hj => i1 2 (16 * (p + 1) + j) (by omega) (by omega) (by omega) (by omega) (by omega))
    have g1 := mf_row (t := fX10_invert 41 42 t4) f4_0 (fun j hj => i1 2 (16 * 0 + j) (by omega) (by omega) (by omega) (by omega) (by omega))
    have g2 := mf_row (t := fX10_invert 41 42 t4) f4_1 (fun j hj => i1 2 (16 * 4 + j) (by omega) (by omega) (by omega) (by omega) (by omega))
    have g3 := mf_row (t := fX10_invert 41 42 t4) v4 (fun j hj => i1 2 (16 * 43 + j) (by omega) (by omega) (by omega) (by omega) (by omega))
    generalize fX10_invert 41 42 t4 = u4 at i1 i2 g0 g1 g2 g3 hC
    obtain ⟨o5, v5⟩ := cM_mul (r := 43) g3 i2 (by omega)
    have f5_0 := mf_row (t := fX10_multiply 43 43 41 u4) g1 (fun j hj => o5 2 (16 * 0 + j) (by omega) (by omega))
    have f5_1 := mf_row (t := fX10_multiply 43 43 41 u4) g2 (fun j hj => o5 2 (16 * 4 + j) (by omega) (by omega))
    have f5_2 := mf_row (t := fX10_multiply 43 43 41 u4) g0 (fun j hj => o5 2 (16 * (p + 1) + j) (by omega) (by omega))
    generalize fX10_multiply 43 43 41 u4 = t5 at o5 v5 f5_0 f5_1 f5_2 hC
    have ev : mf t5 43 (rwv (ry N)) 1 := v5
    obtain ⟨r1, r2, r3⟩ := cM_roots (r := p) ev f5_1 (by omega) (by omega) (by omega) (by omega) (by omega) (by omega) (by omega)
    have y1 := mf_row (t := zsnd (fX10_roots p 43 t5)) f5_2 (fun j hj => r1 2 (16 * (p + 1) + j) (by omega) (by omega) (by omega) (by omega) (by omega) (by omega))
    have z1 := mf_row (t := zsnd (fX10_roots p 43 t5)) f5_0 (fun j hj => r1 2 (16 * 0 + j) (by omega) (by omega) (by omega) (by omega) (by omega) (by omega))
    rw [hbc] at r2 r3
    dsimp only at r2 r3
    rw [r2] at hC
    have frr : ∀ id j, id ≠ 3 → ¬ (id = 2 ∧ 528 ≤ j ∧ j < 576) → ¬ (id = 2 ∧ 656 ≤ j ∧ j < 736) → ¬ (id = 2 ∧ 16 * p ≤ j ∧ j < 16 * p + 64) → ¬ (id = 4 ∧ j < 4) → ¬ (id = 4 ∧ 12 ≤ j ∧ j < 28) → (zsnd (fX10_roots p 43 t5)).1 id j = s.1 id j := fun id j n1 n2 n3 n4 n5 n6 => by
      rw [r1 id j n1 (by omega) (by omega) (by omega) n5 (by omega), o5 id j n1 (by omega), i1 id j n1 (by omega) (by omega) (by omega) n5, o4 id j (by omega), o3 id j (by omega), o2 id j n1 (by omega), o1 id j n1 (by omega), u1 id j (by omega), f3 id j (by omega)]
    clear r2 ev
    generalize zsnd (fX10_roots p 43 t5) = t7 at r1 r3 y1 z1 hC frr
    by_cases q1 : b = true
    · have ho := rok_oc (c := c) (by
        have := rtv_sq (n := pRt) (I := cI) (x := rwv (ry N)) (by rw [hbc]; exact q1)
        rw [hbc] at this
        exact this)
      have hok : rokf N b c = !(decide (c % 57896044618658097711785492504343953926634992332820282019728792003956564819949 = 0) && decide (N / 2 ^ 255 % 2 = 1)) := by
        unfold rokf
        rw [decide_eq_true q0, q1, Bool.true_and, Bool.true_and]
      rw [hC.1 q1]
      obtain ⟨s1, s2⟩ := cM_isSame r3 z1 (by omega) (by omega) (by omega)
      rw [Int.sub_zero] at s2
      obtain ⟨d1, d2, d3⟩ := @op_d p x2 t7
      rw [s2] at d1 d2 d3
      have fx := mf_row (t := zsnd (fX10_isSame p 0 t7)) r3 (fun j hj => s1 2 (16 * p + j) (by omega) (by omega) (by omega))
      have fy := mf_row (t := zsnd (fX10_isSame p 0 t7)) y1 (fun j hj => s1 2 (16 * (p + 1) + j) (by omega) (by omega) (by omega))
      have fz := mf_row (t := zsnd (fX10_isSame p 0 t7)) z1 (fun j hj => s1 2 (16 * 0 + j) (by omega) (by omega) (by omega))
      generalize zsnd (fX10_isSame p 0 t7) = t8 at s1 d1 d2 d3 fx fy fz
      obtain ⟨v1, v2, v3, v4, v5⟩ := cM_tail (x2 := x2) fx fy fz ex2 ho hp
      have h1 : lg_cmp x2 1 = 0 ↔ N / 2 ^ 255 % 2 = 1 := by
        rw [ucmp_eq, ex2]
        exact Iff.rfl
      by_cases q3 : c % 57896044618658097711785492504343953926634992332820282019728792003956564819949 = 0
      · by_cases q2 : N / 2 ^ 255 % 2 = 1
        · rw [decide_eq_true q3, decide_eq_true q2] at hok
          rw [d3 (decide_eq_true q3) (h1.mpr q2), hok]
          simp only [zfst_mk, zsnd_mk]
          exact ⟨fun id j n1 n2 n3 n4 n5 n6 => by rw [s1 id j n1 (by omega) (by omega), frr id j n1 n2 n3 n4 n5 n6], rfl, fun h => absurd h (by decide)⟩
        · rw [decide_eq_true q3, decide_eq_false q2] at hok
          rw [d2 (decide_eq_true q3) (fun z => q2 (h1.mp z)), hok]
          exact ⟨fun id j n1 n2 n3 n4 n5 n6 => by rw [v2 id j n1 (by omega) n4 (by omega), s1 id j n1 (by omega) (by omega), frr id j n1 n2 n3 n4 n5 n6], v1, fun _ => ⟨v3, v4, v5⟩⟩
      · rw [decide_eq_false q3] at hok
        rw [d1 (decide_eq_false q3), hok]
        exact ⟨fun id j n1 n2 n3 n4 n5 n6 => by rw [v2 id j n1 (by omega) n4 (by omega), s1 id j n1 (by omega) (by omega), frr id j n1 n2 n3 n4 n5 n6], v1, fun _ => ⟨v3, v4, v5⟩⟩
    · have q1' : b = false := by
        cases b with
        | true => exact absurd rfl q1
        | false => rfl
      have hok : rokf N b c = false := by
        unfold rokf
        rw [q1', Bool.false_and, Bool.and_false]
      rw [hC.2 q1', hok]
      simp only [zfst_mk, zsnd_mk]
      exact ⟨frr, trivial, fun h => absurd h (by decide)⟩
  · have hok : rokf N b c = false := by
      unfold rokf
      rw [decide_eq_false q0, Bool.false_and]
    rw [hA (fun z => q0 (eo.mp z)), hok]
    simp only [zfst_mk, zsnd_mk]
    exact ⟨fun id j _ _ _ _ n5 n6 => f3 id j (by omega), trivial, fun h => absurd h (by decide)⟩
theorem cM_open {s : zSt} {p q : Nat} (hk : kM s) (hp : 4 < p ∧ p + 3 < 33) :
    (∀ id j, id ≠ 3 → ¬ (id = 2 ∧ 528 ≤ j ∧ j < 576) → ¬ (id = 2 ∧ 656 ≤ j ∧ j < 736) → ¬ (id = 2 ∧ 16 * p ≤ j ∧ j < 16 * p + 64) → ¬ (id = 4 ∧ j < 4) → ¬ (id = 4 ∧ 12 ≤ j ∧ j < 28) → (zsnd (fX10_open p q s)).1 id j = s.1 id j) ∧ zfst (fX10_open p q s) = rok (w4 s q)
      ∧ (rok (w4 s q) = true → rM (zsnd (fX10_open p q s)) p (rxv (w4 s q), ry (w4 s q)) ∧ mf (zsnd (fX10_open p q s)) p (rxv (w4 s q)) 1 ∧ mf (zsnd (fX10_open p q s)) (p + 1) (ry (w4 s q)) 1) := by
  have h := cM_open0 (s := s) (p := p) (q := q) rfl (rcv_eta (w4 s q)) hk hp
  generalize w4 s q = N at h ⊢
  unfold rok rxv
  exact h
