/-! the reference: the one number below p, its words; powers -/
def pkM (i : Nat) : Int64 := if i = 0 then 65517 else if i = 15 then 32767 else 65535
theorem pkM_b : ∀ i, i < 16 → 0 ≤ (pkM i).toInt ∧ (pkM i).toInt ≤ 65535 := by decide
theorem pkM_v : rv 16 pkM 16 = 57896044618658097711785492504343953926634992332820282019728792003956564819949 := by decide
theorem nI_z : ∀ i, i < 16 → (nI i = 0 ↔ i = 0) := by decide
theorem less_step (i : Nat) (hi : i < 16) (z : zSt × Int64) : fX10_lessPrime_4 i z = (zW z.1 3 i ((gr z.1 34 i - pkM i + z.2) &&& 65535), zsr (gr z.1 34 i - pkM i + z.2) 16) := by
  unfold fX10_lessPrime_4 fX10_lessPrime_a3 fX10_lessPrime_a4 fX10_lessPrime_a1 fX10_lessPrime_a2 pkM
  have h := nI_z i hi
  by_cases q : i = 0
  · rw [if_neg (fun z => z (h.mpr q)), if_pos q]
    rfl
  · rw [if_pos (fun z => q (h.mp z)), if_neg q]
    by_cases q2 : i = 15
    · rw [if_neg (fun z => z q2), if_pos q2]
      rfl
    · rw [if_pos q2, if_neg q2]
      rfl
/-- limbs in range -/
def mcan (f : Nat → Int64) : Prop := ∀ i, i < 16 → 0 ≤ (f i).toInt ∧ (f i).toInt < 65536
theorem cM_less {s : zSt} (h : mcan (gr s 34)) : mf3 34 s (fX10_lessPrime s) ∧ mcan (gr (fX10_lessPrime s) 34) ∧ rv 16 (gr (fX10_lessPrime s) 34) 16 = if 57896044618658097711785492504343953926634992332820282019728792003956564819949 ≤ rv 16 (gr s 34) 16 then rv 16 (gr s 34) 16 - 57896044618658097711785492504343953926634992332820282019728792003956564819949 else rv 16 (gr s 34) 16 := by
  have z0 : (0 : Int64).toInt = 0 := by decide
  have H := ziter_I fX10_lessPrime_4 (fun i (z : zSt × Int64) => (∀ id, id ≠ 3 → z.1.1 id = s.1 id) ∧ (∀ j, j < i → 0 ≤ (z.1.1 3 j).toInt ∧ (z.1.1 3 j).toInt < 65536) ∧ rv 16 (z.1.1 3) i + z.2.toInt * 2 ^ (16 * i) = rv 16 (gr s 34) i - rv 16 pkM i ∧ -1 ≤ z.2.toInt ∧ z.2.toInt ≤ 0) 16 ?_ 16 0 (s, 0) (by omega)
    ⟨fun _ _ => rfl, fun j hj => absurd hj (Nat.not_lt_zero j), by show (0 : Int) + (0 : Int64).toInt * _ = 0 - 0; rw [z0]; omega, by show -1 ≤ (0 : Int64).toInt; rw [z0]; omega, by show (0 : Int64).toInt ≤ 0; rw [z0]; omega⟩
  rotate_left
  · intro i z hi ⟨h1, h2, h3, h4, h5⟩
    have e2 : gr z.1 34 i = gr s 34 i := by
      unfold gr
      rw [h1 2 (by omega)]
    have hg := h i hi
    have hp := pkM_b i hi
    have hx1 : (gr s 34 i - pkM i).toInt = (gr s 34 i).toInt - (pkM i).toInt := mq_subL (by omega) (by omega)
    have hx : (gr s 34 i - pkM i + z.2).toInt = (gr s 34 i).toInt - (pkM i).toInt + z.2.toInt := by rw [mq_addL (by omega) (by omega), hx1]
    rw [less_step i hi z, e2]
    have hm := mq_m16 (gr s 34 i - pkM i + z.2)
    have hr := mq_r16 (gr s 34 i - pkM i + z.2)
    generalize gr s 34 i - pkM i + z.2 = x at hx hm hr
    refine ⟨fun id hid => ?_, fun j hj => ?_, ?_, ?_, ?_⟩
    · show (zW z.1 3 i (x &&& 65535)).1 id = _
      rw [zW_ne _ _ _ hid]
      exact h1 id hid
    · show 0 ≤ ((zW z.1 3 i (x &&& 65535)).1 3 j).toInt ∧ ((zW z.1 3 i (x &&& 65535)).1 3 j).toInt < 65536
      rw [zW_at]
      by_cases q : j = i
      · rw [q, pk_uLs, hm]
        omega
      · rw [pk_uLn q]
        exact h2 j (by omega)
    · show rv 16 ((zW z.1 3 i (x &&& 65535)).1 3) (i + 1) + (zsr x 16).toInt * 2 ^ (16 * (i + 1)) = _
      rw [zW_at, rv_succ, rv_succ, rv_succ, pk_uLs, hm, hr, rv_congr (r' := z.1.1 3) (fun k hk => pk_uLn (by omega))]
      have e3 : (2 : Int) ^ (16 * (i + 1)) = 65536 * 2 ^ (16 * i) := zpw 16 i
      have e4 : x.toInt = x.toInt % 65536 + x.toInt / 65536 * 65536 := by omega
      have e5 : ∀ (A m q P b S T g p : Int), A + b * P = S - T → m + q * 65536 = g - p + b → A + m * P + q * (65536 * P) = S + g * P - (T + p * P) := by
        intro A m q P b S T g p h1 h2
        have : m = g - p + b - q * 65536 := by omega
        rw [this]
        have : S = A + b * P + T := by omega
        rw [this]
        grind
      rw [e3]
      exact e5 _ _ _ _ _ _ _ _ _ h3 (by omega)
    · show -1 ≤ (zsr x 16).toInt
      omega
    · show (zsr x 16).toInt ≤ 0
      omega
  have eF : ∀ z, z = ziter fX10_lessPrime_4 0 16 (s, 0) → fX10_lessPrime s = if ¬ lg_cmp z.2 0 = 0 then z.1 else ziter fX10_lessPrime_82 0 16 z.1 := fun z e => by rw [e]; rfl
  generalize hz : ziter fX10_lessPrime_4 0 16 (s, 0) = z at H
  obtain ⟨h1, h2, h3, h4, h5⟩ := H
  rw [eF z hz.symm]
  have hP := rv_range (w := 16) (n := 16) (r := z.1.1 3) (fun i hi => by
    have := h2 i hi
    omega)
  rw [pkM_v] at h3
  have e34 : gr z.1 34 = gr s 34 := by
    unfold gr
    rw [h1 2 (by omega)]
  have hV := rv_range (w := 16) (n := 16) (r := gr s 34) (fun i hi => by
    have := h i hi
    omega)
  by_cases q : z.2.toInt = 0
  · have e0 : lg_cmp z.2 0 = 0 := (lg_cmp_eq _ _).mpr (Int64.toInt_inj.mp (by rw [q, z0]))
    rw [if_neg (fun w => w e0)]
    have g := zmap (F := fX10_lessPrime_82) (s0 := z.1) 2 (16 * 34) 16 (fun i => z.1.1 3 i) (fun i σ hi hh => by
      show zW σ 2 (544 + i) (σ.1 3 i) = _
      rw [hh 3 i (by omega)])
    obtain ⟨g1, g2⟩ := g
    have e : ∀ i, i < 16 → gr (ziter fX10_lessPrime_82 0 16 z.1) 34 i = z.1.1 3 i := fun i hi => g2 i hi
    refine ⟨fun id j n1 n2 => ?_, fun i hi => ?_, ?_⟩
    · rw [g1 id j (by omega), h1 id n1]
    · rw [e i hi]
      exact h2 i hi
    · rw [rv_congr e]
      rw [q] at h3
      rw [if_pos (by omega)]
      omega
  · have e0 : ¬ lg_cmp z.2 0 = 0 := fun w => q (by rw [(lg_cmp_eq _ _).mp w, z0])
    rw [if_pos e0, e34]
    refine ⟨fun id j n1 n2 => by rw [h1 id n1], h, ?_⟩
    have e1 : z.2.toInt = -1 := by omega
    rw [e1] at h3
    rw [if_neg (by omega)]
/-- frames of row 4 (words) -/
def w4fr (p : Nat) (s t : zSt) : Prop := ∀ id j, ¬ (id = 4 ∧ p ≤ j ∧ j < p + 4) → t.1 id j = s.1 id j
theorem w4_keep {s t : zSt} {q : Nat} (h : ∀ j, j < 4 → t.1 4 (q + j) = s.1 4 (q + j)) : w4 t q = w4 s q := rN_congr h
theorem cM_words {s : zSt} (p : Nat) (a b e f : Int64) : w4fr p s (fX10_words p a b e f s) ∧ (fX10_words p a b e f s).1 4 p = a ∧ (fX10_words p a b e f s).1 4 (p + 1) = b ∧ (fX10_words p a b e f s).1 4 (p + 2) = e ∧ (fX10_words p a b e f s).1 4 (p + 3) = f := by
  have eF : (fX10_words p a b e f s) = zW (zW (zW (zW s 4 p a) 4 (p + 1) b) 4 (p + 2) e) 4 (p + 3) f := rfl
  rw [eF]
  refine ⟨fun id j q => ?_, ?_, ?_, ?_, ?_⟩
  · by_cases e4 : id = 4
    · subst e4
      rw [zW_at, pk_uLn (by omega), zW_at, pk_uLn (by omega), zW_at, pk_uLn (by omega), zW_at, pk_uLn (by omega)]
    · rw [zW_ne _ _ _ e4, zW_ne _ _ _ e4, zW_ne _ _ _ e4, zW_ne _ _ _ e4]
  · rw [zW_at, pk_uLn (by omega), zW_at, pk_uLn (by omega), zW_at, pk_uLn (by omega), zW_at, pk_uLs]
  · rw [zW_at, pk_uLn (by omega), zW_at, pk_uLn (by omega), zW_at, pk_uLs]
  · rw [zW_at, pk_uLn (by omega), zW_at, pk_uLs]
  · rw [zW_at, pk_uLs]
theorem cM_words_v {s : zSt} (p : Nat) (a b e f : Int64) : w4 (fX10_words p a b e f s) p = tN a + tN b * 18446744073709551616 + tN e * 340282366920938463463374607431768211456 + tN f * 6277101735386680763835789423207666416102355444464034512896 := by
  obtain ⟨-, h0, h1, h2, h3⟩ := cM_words (s := s) p a b e f
  unfold w4
  rw [rN_4]
  show tN ((fX10_words p a b e f s).1 4 p) + _ + _ + _ = _
  rw [h0, h1, h2, h3]
theorem word16 {a b c d : Int64} (ha : 0 ≤ a.toInt ∧ a.toInt < 65536) (hb : 0 ≤ b.toInt ∧ b.toInt < 65536) (hc : 0 ≤ c.toInt ∧ c.toInt < 65536) (hd : 0 ≤ d.toInt ∧ d.toInt < 65536) : (tN (((a ||| zsl b 16) ||| zsl c 32) ||| zsl d 48) : Int) = a.toInt + b.toInt * 65536 + c.toInt * 4294967296 + d.toInt * 281474976710656 := by
  have na := tN_pos ha.1
  have nb := tN_pos hb.1
  have nc := tN_pos hc.1
  have nd := tN_pos hd.1
  have s1 := mq_zsl b (k := 16) (by omega)
  have s2 := mq_zsl c (k := 32) (by omega)
  have s3 := mq_zsl d (k := 48) (by omega)
  have o1 := or_l (x := a) (y := zsl b 16) (k := 16) (c := tN b) (by omega) (by omega)
  have o2 := or_l (x := a ||| zsl b 16) (y := zsl c 32) (k := 32) (c := tN c) (by omega) (by omega)
  have o3 := or_l (x := (a ||| zsl b 16) ||| zsl c 32) (y := zsl d 48) (k := 48) (c := tN d) (by omega) (by omega)
  omega
theorem pack9 (t : zSt) : ziter fX10_pack_9 0 4 t = fX10_reduce 34 (fX10_reduce 34 (fX10_reduce 34 (fX10_reduce 34 t))) := by
  rw [ziter_succ, ziter_succ, ziter_succ, ziter_succ]
  rfl
theorem pack28 (t : zSt) : ziter fX10_pack_28 0 3 t = fX10_lessPrime (fX10_lessPrime (fX10_lessPrime t)) := by
  rw [ziter_succ, ziter_succ, ziter_succ]
  rfl
theorem cM_pack {s : zSt} {p r k : Nat} {x : Int} (fa : mf s r x k) (hk : k ≤ 8) : (∀ id j, id ≠ 3 → ¬ (id = 2 ∧ 544 ≤ j ∧ j < 560) → ¬ (id = 4 ∧ p ≤ j ∧ j < p + 4) → (fX10_pack p r s).1 id j = s.1 id j) ∧ (w4 (fX10_pack p r s) p : Int) = x % 57896044618658097711785492504343953926634992332820282019728792003956564819949 := by
  have eF : fX10_pack p r s = ziter (fX10_pack_45 p) 0 4 (fX10_lessPrime (fX10_lessPrime (fX10_lessPrime (fX10_reduce 34 (fX10_reduce 34 (fX10_reduce 34 (fX10_reduce 34 (fX10_copyOf 34 r s)))))))) := by
    show ziter (fX10_pack_45 p) 0 4 (ziter fX10_pack_28 0 3 (ziter fX10_pack_9 0 4 (fX10_copyOf 34 r s))) = _
    rw [pack9, pack28]
  rw [eF]
  obtain ⟨c1, c2⟩ := cM_copy (r := 34) fa
  generalize fX10_copyOf 34 r s = t1 at c1 c2
  obtain ⟨a1, a2, a3, a4⟩ := mR_reduce 34 t1 1048576 32 17 (fun i hi => by have := c2.2 i hi; omega) (by omega) (by omega) (by omega) (by omega) (by omega)
  have z1 := c2.1
  generalize fX10_reduce 34 t1 = t2 at a1 a2
  obtain ⟨b1, b2, b3⟩ := a2
  generalize rv 16 (gr t1 34) 16 = T0 at *
  obtain ⟨d1, d2, d3, d4⟩ := mR_reduce 34 t2 131072 8 3 (fun i hi => by
    by_cases q : i = 0
    · subst q
      omega
    · have := b2 i (by omega) hi
      omega) (by omega) (by omega) (by omega) (by omega) (by omega)
  generalize fX10_reduce 34 t2 = t3 at d1 d2
  obtain ⟨e1, e2, e3⟩ := d2
  generalize rv 16 (gr t2 34) 16 = T1 at *
  obtain ⟨f1, f2, f3, f4⟩ := mR_reduce 34 t3 131072 8 3 (fun i hi => by
    by_cases q : i = 0
    · subst q
      omega
    · have := e2 i (by omega) hi
      omega) (by omega) (by omega) (by omega) (by omega) (by omega)
  generalize fX10_reduce 34 t3 = t4 at f1 f2
  obtain ⟨g1, g2, g3⟩ := f2
  generalize rv 16 (gr t3 34) 16 = T2 at *
  have hT2 : 0 ≤ T2 ∧ T2 < 2 ^ 256 := by omega
  obtain ⟨h1, h2, h3, h4⟩ := mR_reduce 34 t4 131072 8 3 (fun i hi => by
    by_cases q : i = 0
    · subst q
      omega
    · have := g2 i (by omega) hi
      omega) (by omega) (by omega) (by omega) (by omega) (by omega)
  generalize fX10_reduce 34 t4 = t5 at h1 h2
  obtain ⟨i1, i2, i3⟩ := h2
  generalize rv 16 (gr t4 34) 16 = T3 at *
  have hT3 : T3 = T2 := by omega
  subst hT3
  have hcan : mcan (gr t5 34) := fun i hi => by
    by_cases q : i = 0
    · subst q
      omega
    · exact i2 i (by omega) hi
  have hV5 : rv 16 (gr t5 34) 16 = T3 := by omega
  have hz : zc T3 x := by
    have k1 : zc T3 T1 := ⟨-(2 * (T1 / 2 ^ 256)), by omega⟩
    have k2 : zc T1 T0 := ⟨-(2 * (T0 / 2 ^ 256)), by omega⟩
    exact zc_trans k1 (zc_trans k2 z1)
  obtain ⟨l1, l2, l3⟩ := cM_less hcan
  generalize fX10_lessPrime t5 = u1 at l1 l2 l3
  obtain ⟨m1, m2, m3⟩ := cM_less l2
  generalize fX10_lessPrime u1 = u2 at m1 m2 m3
  obtain ⟨n1, n2, n3⟩ := cM_less m2
  generalize fX10_lessPrime u2 = u3 at n1 n2 n3
  have hV : rv 16 (gr u3 34) 16 = x % 57896044618658097711785492504343953926634992332820282019728792003956564819949 := by
    rw [← zc_emod hz]
    rw [hV5] at l3
    generalize rv 16 (gr u3 34) 16 = V3 at *
    generalize rv 16 (gr u2 34) 16 = V2 at *
    generalize rv 16 (gr u1 34) 16 = V1 at *
    clear i1 i2 i3 g1 g2 g3 e1 e2 e3 b1 b2 b3 hz z1 h3 h4 f3 f4 d3 d4 a3 a4
    split at l3 <;> split at m3 <;> split at n3 <;> omega
  have g := zmap (F := fX10_pack_45 p) (s0 := u3) 4 p 4 (fun i => ((gr u3 34 (4 * i) ||| zsl (gr u3 34 (4 * i + 1)) 16) ||| zsl (gr u3 34 (4 * i + 2)) 32) ||| zsl (gr u3 34 (4 * i + 3)) 48) (fun i σ hi hh => by
    show zW σ 4 (p + i) (((σ.1 2 (544 + 4 * i) ||| zsl (σ.1 2 (544 + 4 * i + 1)) 16) ||| zsl (σ.1 2 (544 + 4 * i + 2)) 32) ||| zsl (σ.1 2 (544 + 4 * i + 3)) 48) = _
    rw [hh 2 (544 + 4 * i) (by omega), hh 2 (544 + 4 * i + 1) (by omega), hh 2 (544 + 4 * i + 2) (by omega), hh 2 (544 + 4 * i + 3) (by omega)]
    rfl)
  generalize ziter (fX10_pack_45 p) 0 4 u3 = v at g
  obtain ⟨p1, p2⟩ := g
  refine ⟨fun id j r1 r2 r3 => ?_, ?_⟩
  · rw [p1 id j (by omega), n1 id j r1 (by omega), m1 id j r1 (by omega), l1 id j r1 (by omega), h1 id j (by omega), f1 id j (by omega), d1 id j (by omega), a1 id j (by omega), c1 id j (by omega)]
  · rw [← hV]
    unfold w4
    rw [rN_4]
    have y0 := word16 (n2 0 (by omega)) (n2 1 (by omega)) (n2 2 (by omega)) (n2 3 (by omega))
    have y1 := word16 (n2 4 (by omega)) (n2 5 (by omega)) (n2 6 (by omega)) (n2 7 (by omega))
    have y2 := word16 (n2 8 (by omega)) (n2 9 (by omega)) (n2 10 (by omega)) (n2 11 (by omega))
    have y3 := word16 (n2 12 (by omega)) (n2 13 (by omega)) (n2 14 (by omega)) (n2 15 (by omega))
    have x0 := p2 0 (by omega)
    have x1 := p2 1 (by omega)
    have x2 := p2 2 (by omega)
    have x3 := p2 3 (by omega)
    rw [x0, x1, x2, x3, rv_succ, rv_succ, rv_succ, rv_succ, rv_succ, rv_succ, rv_succ, rv_succ, rv_succ, rv_succ, rv_succ, rv_succ, rv_succ, rv_succ, rv_succ, rv_succ, rv_0]
    dsimp only [Nat.reduceMul, Nat.reduceAdd]
    rw [Nat.zero_add] at *
    omega
