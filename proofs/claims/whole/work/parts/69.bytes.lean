/-! points and their bytes -/
def pby (A : Int × Int) : Int := A.2 % 57896044618658097711785492504343953926634992332820282019728792003956564819949 + 57896044618658097711785492504343953926634992332820282019728792003956564819968 * (A.1 % 57896044618658097711785492504343953926634992332820282019728792003956564819949 % 2)
theorem pby_pe {A B : Int × Int} (h : pe A B) : pby A = pby B := by
  unfold pby
  rw [zc_emod h.1, zc_emod h.2]
theorem iv_z {a Z : Int} (h : ¬ zc Z 0) : zc (a * Z * iv Z) a := by
  rw [Int.mul_assoc]
  exact zc_trans (zc_mulL a (iv_mul h)) (zc_of (Int.mul_one a))
theorem top_n : tN (-9223372036854775808) = 1 * 2 ^ 63 := by decide
theorem top_or {r : Nat → Int64} (h : rN r 4 < 57896044618658097711785492504343953926634992332820282019728792003956564819968) {x : Int64} {b : Nat} (hb : b < 2) (hx : tN x = tN (r 3) + b * 2 ^ 63) : rN (vp_updL r 3 x) 4 = rN r 4 + 57896044618658097711785492504343953926634992332820282019728792003956564819968 * b := by
  rw [rN_4, rN_4, pk_uLs, pk_uLn (by omega), pk_uLn (by omega), pk_uLn (by omega), hx]
  omega
theorem top_lt {r : Nat → Int64} (h : rN r 4 < 57896044618658097711785492504343953926634992332820282019728792003956564819968) : tN (r 3) < 2 ^ 63 := by
  rw [rN_4] at h
  omega
theorem wr_t {P ws : Nat} {s t4 : zSt} (e : t4 = fX1_store 77 ws (fX1_multiply (P + 1) 75 77 (fX1_multiply (P + 0) 75 76 (fX1_invert (P + 2) 75 s)))) (h : zfst (fX1_isOdd 76 t4) = true) : fX0_write P ws s = zW (zsnd (fX1_isOdd 76 t4)) ws 3 ((zsnd (fX1_isOdd 76 t4)).1 ws 3 ||| (-9223372036854775808)) := by
  subst e
  unfold fX0_write
  dsimp only
  rw [h, cond_true]
  rfl
theorem wr_f {P ws : Nat} {s t4 : zSt} (e : t4 = fX1_store 77 ws (fX1_multiply (P + 1) 75 77 (fX1_multiply (P + 0) 75 76 (fX1_invert (P + 2) 75 s)))) (h : zfst (fX1_isOdd 76 t4) = false) : fX0_write P ws s = zsnd (fX1_isOdd 76 t4) := by
  subst e
  unfold fX0_write
  dsimp only
  rw [h, cond_false]
  rfl
theorem cX_invert {s : zSt} {a out k : Nat} {x : Int} (fa : zf s a x k) (hk : k ≤ 4) (h1 : rN (s.1 1) 4 = pInv) (ha : a ≠ 45) (ho : out ≠ 40 ∧ out ≠ 1 ∧ ¬ (45 ≤ out ∧ out ≤ 60)) : (∀ id, id ≠ 40 → id ≠ out → ¬ (45 ≤ id ∧ id ≤ 60) → (fX1_invert a out s).1 id = s.1 id) ∧ zf (fX1_invert a out s) out (iv x) 1 := by
  obtain ⟨h2, h3⟩ := cX_raise (e := 1) (out := out) fa hk ha ⟨ho.1, ho.2.2⟩ (by omega)
  rw [h1] at h3
  exact ⟨h2, h3⟩
theorem cX_write {s : zSt} {P ws : Nat} {A : Int × Int} (hA : rX s P A) (h1 : rN (s.1 1) 4 = pInv) (hP : 60 < P ∧ (P + 3 < 75 ∨ 77 < P)) (hw : 1 < ws ∧ ws ≠ 40 ∧ ws ≠ 41 ∧ ws ≠ 75 ∧ ws ≠ 76 ∧ ws ≠ 77) :
    (∀ id, id ≠ 40 → id ≠ 41 → ¬ (45 ≤ id ∧ id ≤ 60) → ¬ (75 ≤ id ∧ id ≤ 77) → id ≠ ws → (fX0_write P ws s).1 id = s.1 id) ∧ (rN ((fX0_write P ws s).1 ws) 4 : Int) = pby A := by
  obtain ⟨oA, Z, hz, p0, p1, p2, p3⟩ := hA
  have hT := @wr_t P ws s
  have hF := @wr_f P ws s
  obtain ⟨i1, i2⟩ := cX_invert (out := 75) p2 (by omega) h1 (by omega) (by omega)
  have p0' := zf_row (t := fX1_invert (P + 2) 75 s) p0 (i1 (P + 0) (by omega) (by omega) (by omega))
  have p1' := zf_row (t := fX1_invert (P + 2) 75 s) p1 (i1 (P + 1) (by omega) (by omega) (by omega))
  generalize fX1_invert (P + 2) 75 s = t1 at i1 i2 p0' p1' hT hF
  obtain ⟨m1, m2⟩ := cX_mul (out := 76) p0' i2 (by omega) (by omega) (by omega) (by omega)
  have p1'' := zf_row (t := fX1_multiply (P + 0) 75 76 t1) p1' (m1 (P + 1) (by omega) (by omega))
  have i2' := zf_row (t := fX1_multiply (P + 0) 75 76 t1) i2 (m1 75 (by omega) (by omega))
  generalize fX1_multiply (P + 0) 75 76 t1 = t2 at m1 m2 p1'' i2' hT hF
  obtain ⟨n1, n2⟩ := cX_mul (out := 77) p1'' i2' (by omega) (by omega) (by omega) (by omega)
  have m2' := zf_row (t := fX1_multiply (P + 1) 75 77 t2) m2 (n1 76 (by omega) (by omega))
  generalize fX1_multiply (P + 1) 75 77 t2 = t3 at n1 n2 m2' hT hF
  obtain ⟨s1, s2⟩ := cX_store (ws := ws) (zf_congr n2 (iv_z hz)) (by omega) (by omega)
  have m3 := zf_row (t := fX1_store 77 ws t3) m2' (s1 76 (by omega) (by omega))
  have hT := hT (t4 := fX1_store 77 ws t3) rfl
  have hF := hF (t4 := fX1_store 77 ws t3) rfl
  generalize fX1_store 77 ws t3 = t4 at s1 s2 m3 hT hF
  obtain ⟨o1, o2⟩ := cX_isOdd (zf_congr m3 (iv_z hz)) (by omega)
  rw [o2] at hT hF
  have ew : (zsnd (fX1_isOdd 76 t4)).1 ws = t4.1 ws := o1 ws (by omega)
  generalize zsnd (fX1_isOdd 76 t4) = t5 at o1 hT hF ew
  have fr : ∀ id, id ≠ 40 → id ≠ 41 → ¬ (45 ≤ id ∧ id ≤ 60) → ¬ (75 ≤ id ∧ id ≤ 77) → id ≠ ws → t5.1 id = s.1 id := fun id n1' n2' n3' n4' n5' => by
    rw [o1 id n2', s1 id n2' n5', n1 id n1' (by omega), m1 id n1' (by omega), i1 id n1' (by omega) n3']
  have hlt : rN (t5.1 ws) 4 < 57896044618658097711785492504343953926634992332820282019728792003956564819968 := by
    rw [ew]
    omega
  unfold pby
  by_cases q : A.1 % 57896044618658097711785492504343953926634992332820282019728792003956564819949 % 2 = 1
  · rw [hT (decide_eq_true q), q]
    refine ⟨fun id n1' n2' n3' n4' n5' => ?_, ?_⟩
    · rw [zW_ne _ _ _ n5']
      exact fr id n1' n2' n3' n4' n5'
    · have e := or_l (x := t5.1 ws 3) (y := -9223372036854775808) (k := 63) (c := 1) (top_lt hlt) top_n
      rw [zW_at, top_or hlt (b := 1) (by omega) e, ew]
      omega
  · rw [hF (decide_eq_false q)]
    refine ⟨fr, ?_⟩
    rw [ew, s2]
    omega
theorem sgn_n : ∀ b, b < 2 → tN (zsl ((nI b).toInt64) 63) = b * 2 ^ 63 := by decide
theorem cM_bytes {s : zSt} {p q : Nat} {A : Int × Int} (hA : rM s q A) (hq : q + 3 < 33) (hp : 4 ≤ p ∧ p + 4 ≤ 64) (hp2 : p + 4 ≤ 24 ∨ 28 ≤ p) :
    (∀ id j, id ≠ 3 → ¬ (id = 2 ∧ 544 ≤ j ∧ j < 576) → ¬ (id = 2 ∧ 656 ≤ j ∧ j < 736) → ¬ (id = 4 ∧ j < 4) → ¬ (id = 4 ∧ 24 ≤ j ∧ j < 28) → ¬ (id = 4 ∧ p ≤ j ∧ j < p + 4) → (fX10_bytes p q s).1 id j = s.1 id j) ∧ (w4 (fX10_bytes p q s) p : Int) = pby A := by
  obtain ⟨oA, Z, hz, p0, p1, p2, p3⟩ := hA
  have eF : ∀ t4 x5, t4 = zsnd (fX10_lowest 42 (fX10_multiply 43 (q + 1) 41 (fX10_multiply 42 q 41 (fX10_invert 41 (q + 2) s)))) → x5 = (zfst (fX10_lowest 42 (fX10_multiply 43 (q + 1) 41 (fX10_multiply 42 q 41 (fX10_invert 41 (q + 2) s))))) → fX10_bytes p q s = zW (fX10_pack p 43 t4) 4 (p + 3) ((fX10_pack p 43 t4).1 4 (p + 3) ||| zsl x5.toInt64 63) := by
    intro t4 x5 e1 e2
    unfold fX10_bytes
    dsimp only
    rw [← e1, ← e2]
  obtain ⟨i1, i2⟩ := cM_invert (r := 41) p2 (by omega) (by omega) (by omega)
  have p0' := mf_row (t := fX10_invert 41 (q + 2) s) p0 (fun j hj => i1 2 (16 * q + j) (by omega) (by omega) (by omega) (by omega) (by omega))
  have p1' := mf_row (t := fX10_invert 41 (q + 2) s) p1 (fun j hj => i1 2 (16 * (q + 1) + j) (by omega) (by omega) (by omega) (by omega) (by omega))
  generalize fX10_invert 41 (q + 2) s = t1 at i1 i2 p0' p1' eF
  obtain ⟨m1, m2⟩ := cM_mul (r := 42) p0' i2 (by omega)
  have p1'' := mf_row (t := fX10_multiply 42 q 41 t1) p1' (fun j hj => m1 2 (16 * (q + 1) + j) (by omega) (by omega))
  have i2' := mf_row (t := fX10_multiply 42 q 41 t1) i2 (fun j hj => m1 2 (16 * 41 + j) (by omega) (by omega))
  generalize fX10_multiply 42 q 41 t1 = t2 at m1 m2 p1'' i2' eF
  obtain ⟨n1, n2⟩ := cM_mul (r := 43) p1'' i2' (by omega)
  have m2' := mf_row (t := fX10_multiply 43 (q + 1) 41 t2) m2 (fun j hj => n1 2 (16 * 42 + j) (by omega) (by omega))
  generalize fX10_multiply 43 (q + 1) 41 t2 = t3 at n1 n2 m2' eF
  obtain ⟨l1, l2⟩ := cM_lowest (mf_congr m2' (iv_z hz)) (by omega)
  have n3 := mf_row (t := zsnd (fX10_lowest 42 t3)) (mf_congr n2 (iv_z hz)) (fun j hj => l1 2 (16 * 43 + j) (by omega) (by omega) (by omega))
  rw [eF _ _ rfl rfl, l2]
  clear eF
  generalize zsnd (fX10_lowest 42 t3) = t4 at l1 n3 ⊢
  obtain ⟨k1, k2⟩ := cM_pack (p := p) n3 (by omega)
  generalize fX10_pack p 43 t4 = t6 at k1 k2 ⊢
  have hb : (A.1 % 57896044618658097711785492504343953926634992332820282019728792003956564819949 % 2).toNat < 2 := by omega
  have es := sgn_n _ hb
  have hlt : rN (fun j => t6.1 4 (p + j)) 4 < 57896044618658097711785492504343953926634992332820282019728792003956564819968 := by
    show w4 t6 p < _
    omega
  refine ⟨fun id j r1 r2 r3 r4 r5 r6 => ?_, ?_⟩
  · have : (zW t6 4 (p + 3) (t6.1 4 (p + 3) ||| zsl (nI (A.1 % 57896044618658097711785492504343953926634992332820282019728792003956564819949 % 2).toNat).toInt64 63)).1 id j = t6.1 id j := by
      by_cases e : id = 4
      · subst e
        rw [zW_at, pk_uLn (by omega)]
      · rw [zW_ne _ _ _ e]
    rw [this, k1 id j r1 (by omega) (by omega), l1 id j r1 (by omega) (by omega), n1 id j r1 (by omega), m1 id j r1 (by omega), i1 id j r1 (by omega) (by omega) (by omega) (by omega)]
  · have e := or_l (x := t6.1 4 (p + 3)) (y := zsl (nI (A.1 % 57896044618658097711785492504343953926634992332820282019728792003956564819949 % 2).toNat).toInt64 63) (k := 63) (c := (A.1 % 57896044618658097711785492504343953926634992332820282019728792003956564819949 % 2).toNat) (top_lt hlt) es
    have e2 : w4 (zW t6 4 (p + 3) (t6.1 4 (p + 3) ||| zsl (nI (A.1 % 57896044618658097711785492504343953926634992332820282019728792003956564819949 % 2).toNat).toInt64 63)) p = rN (vp_updL (fun j => t6.1 4 (p + j)) 3 (t6.1 4 (p + 3) ||| zsl (nI (A.1 % 57896044618658097711785492504343953926634992332820282019728792003956564819949 % 2).toNat).toInt64 63)) 4 := by
      unfold w4
      refine rN_congr (fun i hi => ?_)
      show (zW t6 4 (p + 3) _).1 4 (p + i) = _
      rw [zW_at]
      by_cases e : i = 3
      · rw [e, pk_uLs, pk_uLs]
      · rw [pk_uLn (by omega), pk_uLn e]
    rw [e2, top_or hlt hb e]
    unfold pby
    have e3 : rN (fun j => t6.1 4 (p + j)) 4 = w4 t6 p := rfl
    rw [e3, ← k2]
    omega
/-- whether a point is the neutral one -/
def isn (A : Int × Int) : Bool := decide (A.1 % 57896044618658097711785492504343953926634992332820282019728792003956564819949 = 0) && decide ((A.2 - 1) % 57896044618658097711785492504343953926634992332820282019728792003956564819949 = 0)
theorem zc_d {a b : Int} (h : zc a 0 ↔ zc b 0) : decide (a % 57896044618658097711785492504343953926634992332820282019728792003956564819949 = 0) = decide (b % 57896044618658097711785492504343953926634992332820282019728792003956564819949 = 0) := by
  refine decide_eq_decide.mpr ?_
  have e : ∀ x : Int, x % 57896044618658097711785492504343953926634992332820282019728792003956564819949 = 0 ↔ zc x 0 := fun x => ⟨fun z => zc_of_emod z, fun z => zc_emod z⟩
  rw [e, e, h]
theorem zc_zz {a Z : Int} (hz : ¬ zc Z 0) : zc (a * Z) 0 ↔ zc a 0 := ⟨fun h => (zc_prime h).elim (fun x => x) (fun x => absurd x hz), fun h => zc_m0 Z h⟩
theorem isn_1 {A : Int × Int} {Z : Int} (hz : ¬ zc Z 0) : decide (A.1 * Z % 57896044618658097711785492504343953926634992332820282019728792003956564819949 = 0) = decide (A.1 % 57896044618658097711785492504343953926634992332820282019728792003956564819949 = 0) := zc_d (zc_zz hz)
theorem isn_2 {A : Int × Int} {Z : Int} (hz : ¬ zc Z 0) : decide ((A.2 * Z - Z) % 57896044618658097711785492504343953926634992332820282019728792003956564819949 = 0) = decide ((A.2 - 1) % 57896044618658097711785492504343953926634992332820282019728792003956564819949 = 0) := by
  refine zc_d ?_
  rw [show A.2 * Z - Z = (A.2 - 1) * Z by rw [Int.sub_mul, Int.one_mul]]
  exact zc_zz hz
theorem in_t {P : Nat} {s : zSt} (h : zfst (fX1_isZero (P + 0) s) = true) : zfst (fX0_isNeutral P s) = zfst (fX1_areSame (P + 1) (P + 2) (zsnd (fX1_isZero (P + 0) s))) ∧ zsnd (fX0_isNeutral P s) = zsnd (fX1_areSame (P + 1) (P + 2) (zsnd (fX1_isZero (P + 0) s))) := by
  unfold fX0_isNeutral
  dsimp only
  rw [h, cond_true]
  unfold fX0_isNeutral_a4
  dsimp only
  cases h2 : zfst (fX1_areSame (P + 1) (P + 2) (zsnd (fX1_isZero (P + 0) s))) with
  | true =>
    rw [cond_true]
    exact ⟨rfl, rfl⟩
  | false =>
    rw [cond_false]
    exact ⟨rfl, rfl⟩
theorem in_f {P : Nat} {s : zSt} (h : zfst (fX1_isZero (P + 0) s) = false) : fX0_isNeutral P s = (false, zsnd (fX1_isZero (P + 0) s)) := by
  unfold fX0_isNeutral
  dsimp only
  rw [h, cond_false]
  rfl
theorem cX_isn {s : zSt} {P : Nat} {A : Int × Int} (hA : rX s P A) (hP : 42 < P) : (∀ id, id ≠ 41 → id ≠ 42 → (zsnd (fX0_isNeutral P s)).1 id = s.1 id) ∧ zfst (fX0_isNeutral P s) = isn A := by
  obtain ⟨oA, Z, hz, p0, p1, p2, p3⟩ := hA
  obtain ⟨a1, a2⟩ := cX_isZero p0 (by omega)
  rw [isn_1 hz] at a2
  have hT := @in_t P s
  have hF := @in_f P s
  rw [a2] at hT hF
  have p1' := zf_row (t := zsnd (fX1_isZero (P + 0) s)) p1 (a1 (P + 1) (by omega))
  have p2' := zf_row (t := zsnd (fX1_isZero (P + 0) s)) p2 (a1 (P + 2) (by omega))
  generalize zsnd (fX1_isZero (P + 0) s) = t1 at a1 hT hF p1' p2'
  unfold isn
  by_cases q : A.1 % 57896044618658097711785492504343953926634992332820282019728792003956564819949 = 0
  · obtain ⟨h1, h2⟩ := hT (decide_eq_true q)
    obtain ⟨b1, b2⟩ := cX_areSame p1' p2' (by omega)
    rw [isn_2 hz] at b2
    rw [h1, h2, b2, decide_eq_true q]
    refine ⟨fun id n1 n2 => ?_, by rw [Bool.true_and]⟩
    rw [b1 id n1 n2, a1 id n1]
  · rw [hF (decide_eq_false q), decide_eq_false q, Bool.false_and]
    simp only [zfst_mk, zsnd_mk]
    exact ⟨fun id n1 n2 => a1 id n1, trivial⟩
theorem mn_t {p : Nat} {s : zSt} (h : zfst (fX10_isSame p 0 s) = true) : zfst (fX10_isNeutral p s) = zfst (fX10_isSame (p + 1) (p + 2) (zsnd (fX10_isSame p 0 s))) ∧ zsnd (fX10_isNeutral p s) = zsnd (fX10_isSame (p + 1) (p + 2) (zsnd (fX10_isSame p 0 s))) := by
  unfold fX10_isNeutral
  dsimp only
  rw [h, cond_true]
  unfold fX10_isNeutral_a4
  dsimp only
  cases h2 : zfst (fX10_isSame (p + 1) (p + 2) (zsnd (fX10_isSame p 0 s))) with
  | true =>
    rw [cond_true]
    exact ⟨rfl, rfl⟩
  | false =>
    rw [cond_false]
    exact ⟨rfl, rfl⟩
theorem mn_f {p : Nat} {s : zSt} (h : zfst (fX10_isSame p 0 s) = false) : fX10_isNeutral p s = (false, zsnd (fX10_isSame p 0 s)) := by
  unfold fX10_isNeutral
  dsimp only
  rw [h, cond_false]
  rfl
theorem cM_isn {s : zSt} {p : Nat} {A : Int × Int} (hA : rM s p A) (h0 : mf s 0 0 1) (hp : p + 3 < 33) : (∀ id j, id ≠ 3 → ¬ (id = 2 ∧ 544 ≤ j ∧ j < 560) → ¬ (id = 4 ∧ 16 ≤ j ∧ j < 28) → (zsnd (fX10_isNeutral p s)).1 id j = s.1 id j) ∧ zfst (fX10_isNeutral p s) = isn A := by
  obtain ⟨oA, Z, hz, p0, p1, p2, p3⟩ := hA
  obtain ⟨a1, a2⟩ := cM_isSame p0 h0 (by omega) (by omega) (by omega)
  rw [Int.sub_zero, isn_1 hz] at a2
  have hT := @mn_t p s
  have hF := @mn_f p s
  rw [a2] at hT hF
  have p1' := mf_row (t := zsnd (fX10_isSame p 0 s)) p1 (fun j hj => a1 2 (16 * (p + 1) + j) (by omega) (by omega) (by omega))
  have p2' := mf_row (t := zsnd (fX10_isSame p 0 s)) p2 (fun j hj => a1 2 (16 * (p + 2) + j) (by omega) (by omega) (by omega))
  generalize zsnd (fX10_isSame p 0 s) = t1 at a1 hT hF p1' p2'
  unfold isn
  by_cases q : A.1 % 57896044618658097711785492504343953926634992332820282019728792003956564819949 = 0
  · obtain ⟨h1, h2⟩ := hT (decide_eq_true q)
    obtain ⟨b1, b2⟩ := cM_isSame p1' p2' (by omega) (by omega) (by omega)
    rw [isn_2 hz] at b2
    rw [h1, h2, b2, decide_eq_true q]
    refine ⟨fun id j n1 n2 n3 => ?_, by rw [Bool.true_and]⟩
    rw [b1 id j n1 n2 n3, a1 id j n1 n2 n3]
  · rw [hF (decide_eq_false q), decide_eq_false q, Bool.false_and]
    simp only [zfst_mk, zsnd_mk]
    exact ⟨fun id j n1 n2 n3 => a1 id j n1 n2 n3, trivial⟩
theorem cX_pneg {s : zSt} {P : Nat} {A : Int × Int} (hA : rX s P A) (h0 : zf s 38 0 0) (hP : 42 < P) : (∀ id, ¬ (P ≤ id ∧ id ≤ P + 3) → (fX0_negate P s).1 id = s.1 id) ∧ rX (fX0_negate P s) P (en A) := by
  obtain ⟨oA, Z, hz, p0, p1, p2, p3⟩ := hA
  unfold fX0_negate
  dsimp only
  obtain ⟨w1, v1⟩ := cX_neg (out := P + 0) h0 p0 (by omega)
  have f1_0 := zf_row (t := fX1_negate (P + 0) (P + 0) s) h0 (w1 38 (by omega))
  have f1_1 := zf_row (t := fX1_negate (P + 0) (P + 0) s) p1 (w1 (P + 1) (by omega))
  have f1_2 := zf_row (t := fX1_negate (P + 0) (P + 0) s) p2 (w1 (P + 2) (by omega))
  have f1_3 := zf_row (t := fX1_negate (P + 0) (P + 0) s) p3 (w1 (P + 3) (by omega))
  generalize fX1_negate (P + 0) (P + 0) s = t1 at w1 v1 f1_0 f1_1 f1_2 f1_3 ⊢
  obtain ⟨w2, v2⟩ := cX_neg (out := P + 3) f1_0 f1_3 (by omega)
  have f2_0 := zf_row (t := fX1_negate (P + 3) (P + 3) t1) v1 (w2 (P + 0) (by omega))
  have f2_1 := zf_row (t := fX1_negate (P + 3) (P + 3) t1) f1_1 (w2 (P + 1) (by omega))
  have f2_2 := zf_row (t := fX1_negate (P + 3) (P + 3) t1) f1_2 (w2 (P + 2) (by omega))
  generalize fX1_negate (P + 3) (P + 3) t1 = t2 at w2 v2 f2_0 f2_1 f2_2 ⊢
  exact ⟨fun id n1 => by rw [w2 id (by omega), w1 id (by omega)], oc_n oA, Z, hz, zf_eq f2_0 (Int.neg_mul _ _).symm, f2_1, f2_2, zf_eq v2 (by show _ = -A.1 * A.2 * Z; rw [Int.neg_mul, Int.neg_mul])⟩
theorem cM_pneg {s : zSt} {p : Nat} {A : Int × Int} (hA : rM s p A) (h0 : mf s 0 0 1) (hp : 3 < p) : (∀ id j, ¬ (id = 2 ∧ 16 * p ≤ j ∧ j < 16 * p + 64) → (fX10_negate p s).1 id j = s.1 id j) ∧ rM (fX10_negate p s) p (en A) := by
  obtain ⟨oA, Z, hz, p0, p1, p2, p3⟩ := hA
  unfold fX10_negate
  dsimp only
  obtain ⟨w1, v1⟩ := cM_sub (r := p) h0 p0 (by omega)
  have f1_0 := mf_row (t := fX10_subtract p 0 p s) h0 (fun j hj => w1 2 (16 * 0 + j) (by omega))
  have f1_1 := mf_row (t := fX10_subtract p 0 p s) p1 (fun j hj => w1 2 (16 * (p + 1) + j) (by omega))
  have f1_2 := mf_row (t := fX10_subtract p 0 p s) p2 (fun j hj => w1 2 (16 * (p + 2) + j) (by omega))
  have f1_3 := mf_row (t := fX10_subtract p 0 p s) p3 (fun j hj => w1 2 (16 * (p + 3) + j) (by omega))
  generalize fX10_subtract p 0 p s = t1 at w1 v1 f1_0 f1_1 f1_2 f1_3 ⊢
  obtain ⟨w2, v2⟩ := cM_reduce v1 (by omega)
  have f2_0 := mf_row (t := fX10_reduce p t1) f1_0 (fun j hj => w2 2 (16 * 0 + j) (by omega))
  have f2_1 := mf_row (t := fX10_reduce p t1) f1_1 (fun j hj => w2 2 (16 * (p + 1) + j) (by omega))
  have f2_2 := mf_row (t := fX10_reduce p t1) f1_2 (fun j hj => w2 2 (16 * (p + 2) + j) (by omega))
  have f2_3 := mf_row (t := fX10_reduce p t1) f1_3 (fun j hj => w2 2 (16 * (p + 3) + j) (by omega))
  generalize fX10_reduce p t1 = t2 at w2 v2 f2_0 f2_1 f2_2 f2_3 ⊢
  obtain ⟨w3, v3⟩ := cM_sub (r := p + 3) f2_0 f2_3 (by omega)
  have f3_0 := mf_row (t := fX10_subtract (p + 3) 0 (p + 3) t2) v2 (fun j hj => w3 2 (16 * p + j) (by omega))
  have f3_1 := mf_row (t := fX10_subtract (p + 3) 0 (p + 3) t2) f2_1 (fun j hj => w3 2 (16 * (p + 1) + j) (by omega))
  have f3_2 := mf_row (t := fX10_subtract (p + 3) 0 (p + 3) t2) f2_2 (fun j hj => w3 2 (16 * (p + 2) + j) (by omega))
  generalize fX10_subtract (p + 3) 0 (p + 3) t2 = t3 at w3 v3 f3_0 f3_1 f3_2 ⊢
  obtain ⟨w4, v4⟩ := cM_reduce v3 (by omega)
  have f4_0 := mf_row (t := fX10_reduce (p + 3) t3) f3_0 (fun j hj => w4 2 (16 * p + j) (by omega))
  have f4_1 := mf_row (t := fX10_reduce (p + 3) t3) f3_1 (fun j hj => w4 2 (16 * (p + 1) + j) (by omega))
  have f4_2 := mf_row (t := fX10_reduce (p + 3) t3) f3_2 (fun j hj => w4 2 (16 * (p + 2) + j) (by omega))
  generalize fX10_reduce (p + 3) t3 = t4 at w4 v4 f4_0 f4_1 f4_2 ⊢
  exact ⟨fun id j n1 => by rw [w4 id j (by omega), w3 id j (by omega), w2 id j (by omega), w1 id j (by omega)], oc_n oA, Z, hz, mf_eq f4_0 (by show _ = -A.1 * Z; rw [Int.neg_mul, Int.zero_sub]), f4_1, f4_2, mf_eq v4 (by show _ = -A.1 * A.2 * Z; rw [Int.neg_mul, Int.neg_mul, Int.zero_sub])⟩
