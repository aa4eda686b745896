/-! the reference: comparisons, powers, inverses, roots -/
def pInv : Nat := 57896044618658097711785492504343953926634992332820282019728792003956564819947
def pRt : Nat := 7237005577332262213973186563042994240829374041602535252466099000494570602494
theorem w4_sub {s t : zSt} {p : Nat} (h : ∀ id j, id ≠ 3 → ¬ (id = 2 ∧ 544 ≤ j ∧ j < 560) → ¬ (id = 4 ∧ p ≤ j ∧ j < p + 4) → t.1 id j = s.1 id j) {q : Nat} (hq : q + 4 ≤ p ∨ p + 4 ≤ q) : w4 t q = w4 s q := w4_keep (fun j hj => h 4 (q + j) (by omega) (by omega) (by omega))
theorem cM_isSame {s : zSt} {a b k m : Nat} {x y : Int} (fa : mf s a x k) (fb : mf s b y m) (hk : k ≤ 8) (hm : m ≤ 8) (hb : b ≠ 34) :
    (∀ id j, id ≠ 3 → ¬ (id = 2 ∧ 544 ≤ j ∧ j < 560) → ¬ (id = 4 ∧ 16 ≤ j ∧ j < 28) → (zsnd (fX10_isSame a b s)).1 id j = s.1 id j) ∧ zfst (fX10_isSame a b s) = decide ((x - y) % 57896044618658097711785492504343953926634992332820282019728792003956564819949 = 0) := by
  obtain ⟨p1, p2⟩ := cM_pack (p := 24) fa hk
  have eF : ∀ t1 t2 t3, t1 = fX10_pack 24 a s → t2 = fX10_words 16 (t1.1 4 24) (t1.1 4 25) (t1.1 4 26) (t1.1 4 27) t1 → t3 = fX10_pack 24 b t2 → zsnd (fX10_isSame a b s) = t3 ∧ zfst (fX10_isSame a b s) = decide (vX10_against 24 16 t3 = 0) := by
    intro t1 t2 t3 e1 e2 e3
    subst e1
    subst e2
    subst e3
    unfold fX10_isSame fX10_isSame_a1 fX10_isSame_a2
    dsimp only
    by_cases q : vX10_against 24 16 (fX10_pack 24 b (fX10_words 16 ((fX10_pack 24 a s).1 4 24) ((fX10_pack 24 a s).1 4 25) ((fX10_pack 24 a s).1 4 26) ((fX10_pack 24 a s).1 4 27) (fX10_pack 24 a s))) = 0
    · rw [if_neg (fun z => z q), decide_eq_true q]
      exact ⟨rfl, rfl⟩
    · rw [if_pos q, decide_eq_false q]
      exact ⟨rfl, rfl⟩
  generalize ht1 : fX10_pack 24 a s = t1 at p1 p2
  obtain ⟨q1, -⟩ := cM_words (s := t1) 16 (t1.1 4 24) (t1.1 4 25) (t1.1 4 26) (t1.1 4 27)
  have q2 := cM_words_v (s := t1) 16 (t1.1 4 24) (t1.1 4 25) (t1.1 4 26) (t1.1 4 27)
  generalize ht2 : fX10_words 16 (t1.1 4 24) (t1.1 4 25) (t1.1 4 26) (t1.1 4 27) t1 = t2 at q1 q2
  have e24 : w4 t2 16 = w4 t1 24 := by
    rw [q2]
    unfold w4
    rw [rN_4]
  obtain ⟨r1, r2⟩ := cM_pack (p := 24) (mf_row (mf_row fb (fun j hj => p1 2 (16 * b + j) (by omega) (by omega) (by omega))) (fun j hj => q1 2 (16 * b + j) (by omega))) hm
  generalize ht3 : fX10_pack 24 b t2 = t3 at r1 r2
  have e16 : w4 t3 16 = w4 t1 24 := by rw [w4_sub r1 (by omega), e24]
  obtain ⟨g1, g2⟩ := eF t1 t2 t3 ht1.symm ht2.symm ht3.symm
  rw [g1, g2, vX10_against_eq, e16]
  refine ⟨fun id j n1 n2 n3 => ?_, ?_⟩
  · rw [r1 id j n1 n2 (by omega), q1 id j (by omega), p1 id j n1 n2 (by omega)]
  · refine decide_eq_decide.mpr ?_
    rw [cmp3_eq]
    constructor
    · intro h
      have h2 : (w4 t3 24 : Int) = (w4 t1 24 : Int) := by rw [h]
      rw [r2, p2] at h2
      exact Int.emod_eq_zero_of_dvd (by
        obtain ⟨c, hc⟩ := zc_of_emod h2.symm
        exact ⟨c, by omega⟩)
    · intro h
      have h3 : x % 57896044618658097711785492504343953926634992332820282019728792003956564819949 = y % 57896044618658097711785492504343953926634992332820282019728792003956564819949 := by omega
      have h4 : (w4 t3 24 : Int) = (w4 t1 24 : Int) := by rw [r2, p2, h3]
      omega
theorem low2 {W a b c d : Nat} (h : W = a + b * 18446744073709551616 + c * 340282366920938463463374607431768211456 + d * 6277101735386680763835789423207666416102355444464034512896) : ((W : Int) % 2).toNat = a % 2 := by omega
theorem i32_of {x : Int64} {n : Nat} (h : tN x = n % 2 ^ 1) : x.toInt32 = nI (n % 2) := by
  apply Int32.toBitVec_inj.mp
  apply BitVec.eq_of_toNat_eq
  have h2 : n % 2 < 2 ^ 32 := by omega
  have h3 : n % 2 ^ 1 = n % 2 := rfl
  rw [tN_i32, h, pk_tn h2, h3, Nat.mod_eq_of_lt h2]
theorem cM_lowest {s : zSt} {r k : Nat} {x : Int} (fa : mf s r x k) (hk : k ≤ 8) :
    (∀ id j, id ≠ 3 → ¬ (id = 2 ∧ 544 ≤ j ∧ j < 560) → ¬ (id = 4 ∧ 24 ≤ j ∧ j < 28) → (zsnd (fX10_lowest r s)).1 id j = s.1 id j) ∧ zfst (fX10_lowest r s) = nI ((x % 57896044618658097711785492504343953926634992332820282019728792003956564819949 % 2).toNat) := by
  obtain ⟨p1, p2⟩ := cM_pack (p := 24) fa hk
  have eF : zfst (fX10_lowest r s) = ((fX10_pack 24 r s).1 4 24 &&& 1).toInt32 ∧ zsnd (fX10_lowest r s) = fX10_pack 24 r s := ⟨rfl, rfl⟩
  rw [eF.1, eF.2]
  generalize fX10_pack 24 r s = t at p1 p2
  refine ⟨fun id j n1 n2 n3 => p1 id j n1 n2 (by omega), ?_⟩
  rw [← p2]
  have hm : (1 : Int64).toBitVec.toNat = 2 ^ 1 - 1 := by decide
  have e1 := tN_and (t.1 4 24) 1 hm
  have e2 : w4 t 24 = tN (t.1 4 24) + tN (t.1 4 25) * 18446744073709551616 + tN (t.1 4 26) * 340282366920938463463374607431768211456 + tN (t.1 4 27) * 6277101735386680763835789423207666416102355444464034512896 := by
    unfold w4
    rw [rN_4]
  have e3 : ((w4 t 24 : Int) % 2).toNat = tN (t.1 4 24) % 2 := low2 e2
  rw [e3]
  exact i32_of e1
theorem pw_b0 (x : Int) (n : Nat) (h : n % 2 ≠ 1) : x ^ (n / 2) * x ^ (n / 2) = x ^ n := by
  rw [pw_sq, show 2 * (n / 2) = n by omega]
theorem pw_b1 (x : Int) (n : Nat) (h : ¬ n % 2 ≠ 1) : x ^ (n / 2) * x ^ (n / 2) * x = x ^ n := by
  have e : x ^ (2 * (n / 2)) * x = x ^ (2 * (n / 2) + 1) := (Int.pow_succ _ _).symm
  rw [pw_sq, e, show 2 * (n / 2) + 1 = n by omega]
theorem cM_raise {s : zSt} {r a e k : Nat} {x : Int} (fa : mf s a x k) (hk : k ≤ 32) (hr : r ≠ 35) (he : e + 4 ≤ 64) :
    (∀ id j, id ≠ 3 → ¬ (id = 2 ∧ 16 * r ≤ j ∧ j < 16 * r + 16) → ¬ (id = 2 ∧ 560 ≤ j ∧ j < 576) → (fX10_raise r a e s).1 id j = s.1 id j) ∧ mf (fX10_raise r a e s) r (x ^ w4 s e) 1 := by
  have eF : fX10_raise r a e s = zdown (fX10_raise_18 r e) 256 (fX10_put r 1 (fX10_copyOf 35 a s)) := rfl
  rw [eF]
  obtain ⟨c1, c2⟩ := cM_copy (r := 35) fa
  generalize fX10_copyOf 35 a s = t1 at c1 c2
  obtain ⟨p1, p2⟩ := cM_put (s := t1) (r := r) (v := 1) (by decide) (by decide)
  have e1 : (1 : Int64).toInt = 1 := by decide
  rw [e1] at p2
  have c3 := mf_row (t := fX10_put r 1 t1) c2 (fun j hj => p1 2 (16 * 35 + j) (by omega))
  generalize fX10_put r 1 t1 = t2 at p1 p2 c3
  have hN : w4 s e < 2 ^ 256 := rN_lt _ 4
  have K := zdown_I (fX10_raise_18 r e) (fun j σ => j ≤ 256 ∧ (∀ id j, id ≠ 3 → ¬ (id = 2 ∧ 16 * r ≤ j ∧ j < 16 * r + 16) → ¬ (id = 2 ∧ 560 ≤ j ∧ j < 576) → σ.1 id j = s.1 id j) ∧ mf σ 35 x k ∧ mf σ r (x ^ (w4 s e / 2 ^ j)) 1) ?_ 256 t2 ?_
  rotate_left
  · intro j σ ⟨q0, q1, q2, q3⟩
    obtain ⟨m1, m2⟩ := cM_mul (r := r) q3 q3 (by omega)
    have q2' := mf_row (t := fX10_multiply r r r σ) q2 (fun i hi => m1 2 (16 * 35 + i) (by omega) (by omega))
    have eG : ∀ u, u = fX10_multiply r r r σ → fX10_raise_18 r e j σ = if vX10_bit e j u ≠ 1 then u else fX10_multiply r r 35 u := fun u h => by rw [h]; rfl
    generalize hu : fX10_multiply r r r σ = u at m1 m2 q2'
    rw [eG u hu.symm]
    have ew : w4 u e = w4 s e := w4_keep (fun i hi => by rw [m1 4 (e + i) (by omega) (by omega), q1 4 (e + i) (by omega) (by omega) (by omega)])
    have eb : vX10_bit e j u = w4 s e / 2 ^ j % 2 := by
      rw [vX10_bit_eq e j u (by omega)]
      show w4 u e / 2 ^ j % 2 = _
      rw [ew]
    have e3 : w4 s e / 2 ^ (j + 1) = w4 s e / 2 ^ j / 2 := by rw [Nat.div_div_eq_div_mul, Nat.pow_succ]
    rw [e3] at m2
    rw [eb]
    by_cases q : w4 s e / 2 ^ j % 2 ≠ 1
    · rw [if_pos q]
      refine ⟨by omega, fun id i n1 n2 n3 => ?_, q2', mf_eq m2 ?_⟩
      · rw [m1 id i n1 n2]
        exact q1 id i n1 n2 n3
      · exact pw_b0 x _ q
    · rw [if_neg q]
      obtain ⟨y1, y2⟩ := cM_mul (r := r) m2 q2' (by omega)
      refine ⟨by omega, fun id i n1 n2 n3 => ?_, mf_row q2' (fun i hi => y1 2 (16 * 35 + i) (by omega) (by omega)), mf_eq y2 ?_⟩
      · rw [y1 id i n1 n2, m1 id i n1 n2]
        exact q1 id i n1 n2 n3
      · exact pw_b1 x _ q
  · refine ⟨Nat.le_refl _, fun id j n1 n2 n3 => ?_, c3, mf_eq p2 ?_⟩
    · rw [p1 id j n2, c1 id j (by omega)]
    · rw [Nat.div_eq_of_lt hN, Int.pow_zero]
  generalize zdown (fX10_raise_18 r e) 256 t2 = t5 at K
  refine ⟨K.2.1, mf_eq K.2.2.2 ?_⟩
  rw [Nat.pow_zero, Nat.div_one]
theorem cM_invert {s : zSt} {r a k : Nat} {x : Int} (fa : mf s a x k) (hk : k ≤ 32) (hr : r ≠ 35) (hr2 : r ≠ 45) :
    (∀ id j, id ≠ 3 → ¬ (id = 2 ∧ 16 * r ≤ j ∧ j < 16 * r + 16) → ¬ (id = 2 ∧ 560 ≤ j ∧ j < 576) → ¬ (id = 2 ∧ 720 ≤ j ∧ j < 736) → ¬ (id = 4 ∧ j < 4) → (fX10_invert r a s).1 id j = s.1 id j) ∧ mf (fX10_invert r a s) r (x ^ pInv) 1 := by
  have eF : fX10_invert r a s = fX10_raise r 45 0 (fX10_copyOf 45 a (fX10_words 0 (-21) (-1) (-1) 9223372036854775807 s)) := rfl
  rw [eF]
  obtain ⟨w1, -⟩ := cM_words (s := s) 0 (-21) (-1) (-1) 9223372036854775807
  have w2 := cM_words_v (s := s) 0 (-21) (-1) (-1) 9223372036854775807
  generalize fX10_words 0 (-21) (-1) (-1) 9223372036854775807 s = t1 at w1 w2
  obtain ⟨c1, c2⟩ := cM_copy (r := 45) (mf_row fa (fun j hj => w1 2 (16 * a + j) (by omega)))
  generalize fX10_copyOf 45 a t1 = t2 at c1 c2
  have e2 : w4 t2 0 = pInv := by
    rw [w4_keep (fun j hj => c1 4 (0 + j) (by omega)), w2]
    decide
  obtain ⟨r1, r2⟩ := cM_raise (r := r) (e := 0) c2 hk hr (by omega)
  rw [e2] at r2
  refine ⟨fun id j n1 n2 n3 n4 n5 => ?_, r2⟩
  rw [r1 id j n1 n2 n3, c1 id j (by omega), w1 id j (by omega)]
/-- the root that both try, with I for a root of -1 -/
def rtv (n : Nat) (I x : Int) : Bool × Int := if (x ^ n * x ^ n - x) % 57896044618658097711785492504343953926634992332820282019728792003956564819949 = 0 then (true, x ^ n) else (decide ((x ^ n * I * (x ^ n * I) - x) % 57896044618658097711785492504343953926634992332820282019728792003956564819949 = 0), x ^ n * I)
theorem roots_t {r a : Nat} {s t4 : zSt} (e : t4 = fX10_multiply 33 r r (fX10_raise r 44 0 (fX10_copyOf 44 a (fX10_words 0 (-2) (-1) (-1) 1152921504606846975 s)))) (h : zfst (fX10_isSame 33 44 t4) = true) : fX10_roots r a s = (true, zsnd (fX10_isSame 33 44 t4)) := by
  subst e
  unfold fX10_roots
  dsimp only
  rw [h, cond_true]
  rfl
theorem roots_f {r a : Nat} {s t4 t7 : zSt} (e : t4 = fX10_multiply 33 r r (fX10_raise r 44 0 (fX10_copyOf 44 a (fX10_words 0 (-2) (-1) (-1) 1152921504606846975 s)))) (h : zfst (fX10_isSame 33 44 t4) = false) (e7 : t7 = fX10_multiply 33 r r (fX10_multiply r r 4 (zsnd (fX10_isSame 33 44 t4)))) : fX10_roots r a s = (zfst (fX10_isSame 33 44 t7), zsnd (fX10_isSame 33 44 t7)) := by
  subst e7
  subst e
  unfold fX10_roots
  dsimp only
  rw [h, cond_false]
  rfl
theorem cM_roots {s : zSt} {r a k m : Nat} {x I : Int} (fa : mf s a x k) (fI : mf s 4 I m) (hk : k ≤ 8) (hm : m ≤ 8) (hr : r ≠ 35) (hr2 : r ≠ 44) (hr3 : r ≠ 33) (hr4 : r ≠ 34) (hr5 : r ≠ 4) :
    (∀ id j, id ≠ 3 → ¬ (id = 2 ∧ 16 * r ≤ j ∧ j < 16 * r + 16) → ¬ (id = 2 ∧ 528 ≤ j ∧ j < 576) → ¬ (id = 2 ∧ 704 ≤ j ∧ j < 720) → ¬ (id = 4 ∧ j < 4) → ¬ (id = 4 ∧ 16 ≤ j ∧ j < 28) → (zsnd (fX10_roots r a s)).1 id j = s.1 id j) ∧ zfst (fX10_roots r a s) = (rtv pRt I x).1 ∧ mf (zsnd (fX10_roots r a s)) r (rtv pRt I x).2 1 := by
  obtain ⟨w1, -⟩ := cM_words (s := s) 0 (-2) (-1) (-1) 1152921504606846975
  have w2 := cM_words_v (s := s) 0 (-2) (-1) (-1) 1152921504606846975
  generalize ht1 : fX10_words 0 (-2) (-1) (-1) 1152921504606846975 s = t1 at w1 w2
  obtain ⟨c1, c2⟩ := cM_copy (r := 44) (mf_row fa (fun j hj => w1 2 (16 * a + j) (by omega)))
  generalize ht2 : fX10_copyOf 44 a t1 = t2 at c1 c2
  have e2 : w4 t2 0 = pRt := by
    rw [w4_keep (fun j hj => c1 4 (0 + j) (by omega)), w2]
    decide
  obtain ⟨r1, r2⟩ := cM_raise (r := r) (e := 0) c2 (by omega) hr (by omega)
  rw [e2] at r2
  clear e2
  generalize pRt = n at r2 ⊢
  have c3 := mf_row (t := fX10_raise r 44 0 t2) c2 (fun j hj => r1 2 (16 * 44 + j) (by omega) (by omega) (by omega))
  have i3 : mf (fX10_raise r 44 0 t2) 4 I m := mf_row (mf_row (mf_row fI (fun j hj => w1 2 (16 * 4 + j) (by omega))) (fun j hj => c1 2 (16 * 4 + j) (by omega))) (fun j hj => r1 2 (16 * 4 + j) (by omega) (by omega) (by omega))
  generalize ht3 : fX10_raise r 44 0 t2 = t3 at r1 r2 c3 i3
  obtain ⟨m1, m2⟩ := cM_mul (r := 33) r2 r2 (by omega)
  have c4 := mf_row (t := fX10_multiply 33 r r t3) c3 (fun j hj => m1 2 (16 * 44 + j) (by omega) (by omega))
  have i4 := mf_row (t := fX10_multiply 33 r r t3) i3 (fun j hj => m1 2 (16 * 4 + j) (by omega) (by omega))
  have r4 := mf_row (t := fX10_multiply 33 r r t3) r2 (fun j hj => m1 2 (16 * r + j) (by omega) (by omega))
  generalize ht4 : fX10_multiply 33 r r t3 = t4 at m1 m2 c4 i4 r4
  obtain ⟨s1, s2⟩ := cM_isSame m2 c4 (by omega) hk (by omega)
  have c5 := mf_row (t := zsnd (fX10_isSame 33 44 t4)) c4 (fun j hj => s1 2 (16 * 44 + j) (by omega) (by omega) (by omega))
  have i5 := mf_row (t := zsnd (fX10_isSame 33 44 t4)) i4 (fun j hj => s1 2 (16 * 4 + j) (by omega) (by omega) (by omega))
  have r5 := mf_row (t := zsnd (fX10_isSame 33 44 t4)) r4 (fun j hj => s1 2 (16 * r + j) (by omega) (by omega) (by omega))
  have e4 : t4 = fX10_multiply 33 r r (fX10_raise r 44 0 (fX10_copyOf 44 a (fX10_words 0 (-2) (-1) (-1) 1152921504606846975 s))) := by rw [ht1, ht2, ht3, ht4]
  have hT := roots_t e4
  have hF := fun h t7 => roots_f (t7 := t7) e4 h
  rw [s2] at hT hF
  clear e4 ht1 ht2 ht3 ht4
  generalize zsnd (fX10_isSame 33 44 t4) = t5 at s1 c5 i5 r5 hT hF
  have fr5 : ∀ id j, id ≠ 3 → ¬ (id = 2 ∧ 16 * r ≤ j ∧ j < 16 * r + 16) → ¬ (id = 2 ∧ 528 ≤ j ∧ j < 576) → ¬ (id = 2 ∧ 704 ≤ j ∧ j < 720) → ¬ (id = 4 ∧ j < 4) → ¬ (id = 4 ∧ 16 ≤ j ∧ j < 28) → t5.1 id j = s.1 id j := fun id j n1 n2 n3 n4 n5 n6 => by
    rw [s1 id j n1 (by omega) n6, m1 id j n1 (by omega), r1 id j n1 n2 (by omega), c1 id j (by omega), w1 id j (by omega)]
  by_cases hq : (x ^ n * x ^ n - x) % 57896044618658097711785492504343953926634992332820282019728792003956564819949 = 0
  · rw [hT (decide_eq_true hq)]
    have e : rtv n I x = (true, x ^ n) := if_pos hq
    rw [e]
    simp only [zfst_mk, zsnd_mk]
    exact ⟨fr5, trivial, r5⟩
  · rw [hF (decide_eq_false hq) _ rfl]
    have e : rtv n I x = (decide ((x ^ n * I * (x ^ n * I) - x) % 57896044618658097711785492504343953926634992332820282019728792003956564819949 = 0), x ^ n * I) := if_neg hq
    rw [e]
    simp only [zfst_mk, zsnd_mk]
    obtain ⟨a1, a2⟩ := cM_mul (r := r) r5 i5 (by omega)
    have c6 := mf_row (t := fX10_multiply r r 4 t5) c5 (fun j hj => a1 2 (16 * 44 + j) (by omega) (by omega))
    generalize fX10_multiply r r 4 t5 = t6 at a1 a2 c6
    obtain ⟨b1, b2⟩ := cM_mul (r := 33) a2 a2 (by omega)
    have c7 := mf_row (t := fX10_multiply 33 r r t6) c6 (fun j hj => b1 2 (16 * 44 + j) (by omega) (by omega))
    have r7 := mf_row (t := fX10_multiply 33 r r t6) a2 (fun j hj => b1 2 (16 * r + j) (by omega) (by omega))
    generalize fX10_multiply 33 r r t6 = t7 at b1 b2 c7 r7
    obtain ⟨d1, d2⟩ := cM_isSame b2 c7 (by omega) hk (by omega)
    have r8 := mf_row (t := zsnd (fX10_isSame 33 44 t7)) r7 (fun j hj => d1 2 (16 * r + j) (by omega) (by omega) (by omega))
    refine ⟨fun id j n1 n2 n3 n4 n5 n6 => ?_, d2, r8⟩
    rw [d1 id j n1 (by omega) n6, b1 id j n1 (by omega), a1 id j n1 n2]
    exact fr5 id j n1 n2 n3 n4 n5 n6
