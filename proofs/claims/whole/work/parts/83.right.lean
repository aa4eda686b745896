/-! signatures judged on both sides: alike -/
theorem KX.refl (s : zSt) : KX s s := ⟨fun _ _ => rfl, fun _ _ => rfl, fun _ _ => rfl⟩
theorem KM.refl (s : zSt) : KM s s := ⟨⟨fun _ _ => rfl, fun _ _ _ => rfl, rfl, rfl⟩, rfl, fun _ _ _ => rfl, fun _ _ => rfl⟩
theorem KX.trans {s t u : zSt} (h : KX s t) (g : KX t u) : KX s u := ⟨fun id q => (g.1 id q).trans (h.1 id q), fun id q => (g.2.1 id q).trans (h.2.1 id q), fun k q => (g.2.2 k q).trans (h.2.2 k q)⟩
theorem KM.trans {s t u : zSt} (h : KM s t) (g : KM t u) : KM s u := ⟨h.1.trans g.1, g.2.1.trans h.2.1, fun id q1 q2 => (g.2.2.1 id q1 q2).trans (h.2.2.1 id q1 q2), fun k q => (g.2.2.2 k q).trans (h.2.2.2 k q)⟩
theorem KX_of {s t : zSt} (h : ∀ id, (id < 40 ∨ (66 < id ∧ id < 75)) → t.1 id = s.1 id) (k : zk2 t = zk2 s) : KX s t := ⟨h, fun id _ => z2_B k id, fun q _ => z2_I k q⟩
theorem KM_of {s t : zSt} (h : ∀ id j, (id = 0 ∨ id = 5 ∨ id = 6 ∨ (id = 2 ∧ j < 144) ∨ (id = 4 ∧ 32 ≤ j ∧ j < 40)) → t.1 id j = s.1 id j) (k : zk2 t = zk2 s) : KM s t := ⟨⟨fun j q => h 2 j (by omega), fun j q q2 => h 4 j (by omega), funext fun j => h 5 j (by omega), funext fun j => h 6 j (by omega)⟩, funext fun j => h 0 j (by omega), fun id _ _ => z2_B k id, fun q _ => z2_I k q⟩
theorem slM_row {s t : zSt} (h : t.1 0 = s.1 0) (v : Nat) : slM t v = slM s v := by
  unfold slM
  rw [h]
theorem k2_rgX (s1 : Nat) (s : zSt) : zk2 (rgX s1 s) = zk2 s := by
  unfold rgX
  rw [ziter_keep (fun z => zk2 z) fX6_isRight_139 (fun i x => k2_fX0_twice 196 196 x) 3 0, k2_fX0_add, k2_fX0_multiply, k2_fX0_negate, k2_fX0_add, k2_fX0_multiply]
theorem k2_eight (p : Nat) (s : zSt) : zk2 (fX10_eightTimes p s) = zk2 s := ziter_keep (fun z => zk2 z) (fX10_eightTimes_2 p) (fun i x => k2_fX10_addPoint p p x) 3 0 s
theorem k2_rgM (s : zSt) : zk2 (rgM s) = zk2 s := by
  unfold rgM
  rw [k2_fX10_addPoint, k2_fX10_negate, k2_eight, k2_fX10_addPoint, k2_fX10_many, k2_eight, k2_fX10_many]
/-- the challenge of a judgement -/
theorem ch_rel {s t : zSt} {k1 r1 a b T : Nat} (hk1 : rN (s.1 k1) 4 = slM t a) (hr1 : rN (s.1 r1) 4 = slM t b) (hX : CX s) (hM : CM t) (hk : HK s t) (hT : TR T s t) (hT4 : T ≤ 400) : ∀ x y, x = fX6_findChallenge r1 k1 T s → y = fX10_digestScalar 20 (fX10_digests (64 + T) (fX10_tellText 64 T (fX10_tellWords 4 32 (fX10_fromSlot 4 a (fX10_tellWords 4 0 (fX10_fromSlot 4 b t)))))) →
    rN (x.1 184) 4 = w4 y 20 ∧ (∀ id, id ≠ 177 → id ≠ 178 → id ≠ 180 → id ≠ 184 → x.1 id = s.1 id) ∧ (∀ id, id ≠ 176 → x.2.1 id = s.2.1 id) ∧ (∀ k, k ≠ 5 → x.2.2 k = s.2.2 k)
      ∧ (∀ id j, id ≠ 11 → id ≠ 12 → id ≠ 13 → id ≠ 15 → id ≠ 16 → ¬ (id = 4 ∧ 4 ≤ j ∧ j < 8) → ¬ (id = 4 ∧ 20 ≤ j ∧ j < 24) → y.1 id j = t.1 id j) ∧ (∀ id, id ≠ 10 → id ≠ 14 → y.2.1 id = t.2.1 id) ∧ (∀ k, k ≠ 5 → y.2.2 k = t.2.2 k) ∧ y.2.2 5 = nI 0 := by
  intro x y ex ey
  have ex : x = fX4_reduce 180 8 512 184 (fX5_finish 180 (64 + T) (fX5_takeText 64 T (fX5_takeRow k1 32 (fX5_takeRow r1 0 (fX5_begin s))))) := ex
  obtain ⟨f1, f2, f3⟩ := cM_from 4 b t
  generalize fX10_fromSlot 4 b t = t1 at f1 f2 f3 ey
  have g := bg_X s
  generalize fX5_begin s = s0 at g ex
  obtain ⟨a1, a2, a3⟩ := MR_row (ws := r1) (p := 4) (MR_0 s0 t1) (fun j hj => by rw [g.1]; exact w4_row (by rw [f2]; exact hr1) j hj)
  generalize fX5_takeRow r1 0 s0 = s1 at a1 a2 ex
  generalize fX10_tellWords 4 0 t1 = t2 at a1 a3 ey
  obtain ⟨h1, h2, h3⟩ := cM_from 4 a t2
  have e0 : t2.1 0 = t.1 0 := by rw [a3.1]; exact funext fun j => f1 0 j (by omega)
  rw [slM_row e0] at h2
  generalize fX10_fromSlot 4 a t2 = t3 at h1 h2 h3 ey
  have hM3 : MR 32 s1 t3 := fun i hi => by rw [h3]; exact a1 i (by omega)
  obtain ⟨d1, d2, d3⟩ := MR_row (ws := k1) (p := 4) (L := 32) (s := s1) (t := t3) hM3 (fun j hj => by rw [a2.1, g.1]; exact w4_row (by rw [h2]; exact hk1) j hj)
  generalize fX5_takeRow k1 32 s1 = s2 at d1 d2 ex
  generalize fX10_tellWords 4 32 t3 = t4 at d1 d3 ey
  have T4 : TR T s2 t4 := TR_keep hT (by rw [d2.2.1 36 (by omega), a2.2.1 36 (by omega), g.2.1 36 (by omega)]) (by rw [d3.2.1 1 (by omega), h3, a3.2.1 1 (by omega), f3])
  obtain ⟨c1, c2, c3⟩ := MR_text (L := 64) (T := T) (s := s2) (t := t4) d1 T4
  generalize fX5_takeText 64 T s2 = s3 at c1 c2 ex
  generalize fX10_tellText 64 T t4 = t5 at c1 c3 ey
  have es3 : s3.1 = s.1 := by rw [c2.1, d2.1, a2.1, g.1]
  have et5 : ∀ id j, ¬ (id = 4 ∧ 4 ≤ j ∧ j < 8) → t5.1 id j = t.1 id j := fun id j q => by rw [c3.1, d3.1, h1 id j (by omega), a3.1, f1 id j (by omega)]
  have kx : keepX s s3 := fun id _ => by rw [es3]
  have ky : keepM t t5 := ⟨fun j q => et5 2 j (by omega), fun j q q2 => et5 4 j (by omega), funext fun j => et5 5 j (by omega), funext fun j => et5 6 j (by omega)⟩
  obtain ⟨i1, i2, i3, i4, i5, i6, i7, i8⟩ := hs_rel (o := 184) (p := 20) c1 (by omega) (HK_keep hk kx ky) (CX_keep hX kx).2.1 (CM_keep hM ky).1.2.2.2.2.2.2 (Or.inr rfl) (by omega)
  rw [← ex] at i1 i2 i3 i4
  rw [← ey] at i1 i5 i6 i7 i8
  refine ⟨i1, fun id q1 q2 q3 q4 => by rw [i2 id q1 q2 q3 q4, es3], fun id q => by rw [i3 id q, c2.2.1 id q, d2.2.1 id q, a2.2.1 id q, g.2.1 id q], fun k q => by rw [i4 k q, c2.2.2 k q, d2.2.2 k q, a2.2.2 k q, g.2.2 k q], fun id j q1 q2 q3 q4 q5 q6 q7 => by rw [i5 id j q1 q2 q3 q4 q5 q7, et5 id j q6], fun id q1 q2 => by rw [i6 id q1 q2, c3.2.1 id q1, d3.2.1 id q1, h3, a3.2.1 id q1, f3], fun k q => by rw [i7 k q, c3.2.2 k q, d3.2.2 k q, h3, a3.2.2 k q, f3], i8⟩
theorem rgt_end {s t : zSt} {k1 r1 s1 a b T : Nat} {A R : Int × Int} (A1 : rX s 186 A) (R1 : rX s 191 R) (A2 : rM t 10 A) (R2 : rM t 14 R) (hw : w4 t 8 = rN (s.1 s1) 4) (hk1 : rN (s.1 k1) 4 = slM t a) (hr1 : rN (s.1 r1) 4 = slM t b) (hX : CX s) (hM : CM t) (hk : HK s t) (hT : TR T s t) (hT4 : T ≤ 400) (n3 : 10 < s1 ∧ s1 < 36) : ∀ x y, x = fX6_findChallenge r1 k1 T s → y = fX10_digestScalar 20 (fX10_digests (64 + T) (fX10_tellText 64 T (fX10_tellWords 4 32 (fX10_fromSlot 4 a (fX10_tellWords 4 0 (fX10_fromSlot 4 b t)))))) →
    zfst (fX0_isNeutral 196 (rgX s1 x)) = zfst (fX10_isNeutral 18 (rgM y)) ∧ KX s (zsnd (fX0_isNeutral 196 (rgX s1 x))) ∧ KM t (zsnd (fX10_isNeutral 18 (rgM y))) ∧ (zsnd (fX10_isNeutral 18 (rgM y))).2.2 5 = nI 0 := by
  intro x y ex ey
  obtain ⟨c1, c2, c3, c4, c5, c6, c7, c8⟩ := ch_rel hk1 hr1 hX hM hk hT hT4 x y ex ey
  clear ex ey
  have B1 := rX_row (t := x) A1 (fun i hi => c2 (186 + i) (by omega) (by omega) (by omega) (by omega))
  have B2 := rX_row (t := x) R1 (fun i hi => c2 (191 + i) (by omega) (by omega) (by omega) (by omega))
  have C1 := rM_row (t := y) A2 (fun j z1 z2 => c5 2 j (by omega) (by omega) (by omega) (by omega) (by omega) (by omega) (by omega))
  have C2 := rM_row (t := y) R2 (fun j z1 z2 => c5 2 j (by omega) (by omega) (by omega) (by omega) (by omega) (by omega) (by omega))
  have kx : KX s x := ⟨fun id q => c2 id (by omega) (by omega) (by omega) (by omega), c3, c4⟩
  have km : KM t y := ⟨⟨fun j q => c5 2 j (by omega) (by omega) (by omega) (by omega) (by omega) (by omega) (by omega), fun j q q2 => c5 4 j (by omega) (by omega) (by omega) (by omega) (by omega) (by omega) (by omega), funext fun j => c5 5 j (by omega) (by omega) (by omega) (by omega) (by omega) (by omega) (by omega), funext fun j => c5 6 j (by omega) (by omega) (by omega) (by omega) (by omega) (by omega) (by omega)⟩, funext fun j => c5 0 j (by omega) (by omega) (by omega) (by omega) (by omega) (by omega) (by omega), c6, c7⟩
  have hXu := CX_keep hX kx.keep
  have hMv := CM_keep hM km.1
  have es : w4 y 8 = rN (x.1 s1) 4 := by
    rw [w4_keep (t := y) (s := t) (fun j hj => c5 4 (8 + j) (by omega) (by omega) (by omega) (by omega) (by omega) (by omega) (by omega)), c2 s1 (by omega) (by omega) (by omega) (by omega)]
    exact hw
  obtain ⟨q1, q2⟩ := rgX_v hXu B1 B2 n3
  obtain ⟨r1', r2⟩ := rgM_v hMv C1 C2
  rw [es, ← c1] at r2
  generalize rN (x.1 184) 4 = k at q2 r2
  generalize rN (x.1 s1) 4 = S at q2 r2
  have kq := k2_rgX s1 x
  have kr := k2_rgM y
  generalize rgX s1 x = x' at q1 q2 kq ⊢
  generalize rgM y = y' at r1' r2 kr ⊢
  have hZ : mf y' 0 0 1 := mf_row hMv.1.1 (fun j hj => r1' 2 _ (by omega) (by omega))
  obtain ⟨i1, i2⟩ := cX_isn q2 (by omega)
  obtain ⟨j1, j2⟩ := cM_isn r2 hZ (by omega)
  have ki := k2_fX0_isNeutral 196 x'
  have kj := k2_fX10_isNeutral 18 y'
  rw [i2, j2]
  generalize zsnd (fX0_isNeutral 196 x') = x2 at i1 ki ⊢
  generalize zsnd (fX10_isNeutral 18 y') = y2 at j1 kj ⊢
  obtain ⟨oA, _⟩ := A1
  obtain ⟨oR, _⟩ := R1
  obtain ⟨oB, _⟩ := hX.2.2
  refine ⟨isn_pe (cof (sm_oc oB S) (ea_oc (sm_oc oA k) oR)), kx.trans (KX_of (fun id q => ?_) (ki.trans kq)), km.trans (KM_of (fun id j q => ?_) (kj.trans kr)), ?_⟩
  · rw [i1 id (by omega) (by omega), q1 id (by omega) (by omega) (by omega) (by omega) (by omega)]
  · rw [j1 id j (by omega) (by omega) (by omega), r1' id j (by omega) (by omega)]
  · rw [z2_I (kj.trans kr) 5]
    exact c8
theorem rgt_rel {s t : zSt} {k1 r1 s1 a b T : Nat} (hk1 : rN (s.1 k1) 4 = slM t a) (hr1 : rN (s.1 r1) 4 = slM t b) (hs1 : rN (s.1 s1) 4 = slM t (b + 1)) (hX : CX s) (hM : CM t) (hk : HK s t) (hT : TR T s t) (hT4 : T ≤ 400) (n1 : 10 < k1 ∧ k1 < 36) (n2 : 10 < r1 ∧ r1 < 36) (n3 : 10 < s1 ∧ s1 < 36) (h5 : t.2.2 5 = nI 0) :
    zfst (fX6_isRight k1 r1 s1 T s) = zfst (fX10_isRight a b T t) ∧ KX s (zsnd (fX6_isRight k1 r1 s1 T s)) ∧ KM t (zsnd (fX10_isRight a b T t)) ∧ (zsnd (fX10_isRight a b T t)).2.2 5 = nI 0 := by
  have bX := blo_eq (s1 := s1) hX.2.1.1
  rw [hs1] at bX
  obtain ⟨f1, f2, f3⟩ := cM_from 8 (b + 1) t
  have m0 := fun t1 => @mi_0 a b T t t1
  have m1 := fun t1 => @mi_1 a b T t t1
  have m2 := fun t1 t5 => @mi_2 a b T t t1 t5
  have m3 := fun t1 t5 t18 => @mi_3 a b T t t1 t5 t18
  generalize hS : slM t (b + 1) = S at bX f2 hs1
  have km1 : KM t (fX10_fromSlot 8 (b + 1) t) := KM_of (fun id j q => f1 id j (by omega)) f3
  have m0 := m0 _ rfl
  have m1 := m1 _ rfl
  have m2 := fun t5 => m2 _ t5 rfl
  have m3 := fun t5 t18 => m3 _ t5 t18 rfl
  generalize fX10_fromSlot 8 (b + 1) t = t1 at f1 f2 f3 km1 m0 m1 m2 m3
  have hM1 := CM_keep hM km1.1
  have bM : 0 ≤ vX10_against 8 32 t1 ↔ 7237005577332262213973186563042994240857116359379907606001950938285454250989 ≤ S := by rw [vX10_against_eq, cmp3_ge, f2, hM1.1.2.2.2.2.2.2]
  by_cases q : S < 7237005577332262213973186563042994240857116359379907606001950938285454250989
  · have q' : ¬ 0 ≤ vX10_against 8 32 t1 := fun z => absurd (bM.mp z) (Nat.not_le.mpr q)
    rw [decide_eq_true q] at bX
    obtain ⟨r1', r2, r3⟩ := cX_read (ws := k1) (P := 186) hX.1 (by omega) (by omega)
    have kr := k2_fX0_read k1 186 s
    have x1 := @ri_1 k1 r1 s1 T s bX
    have x2 := fun t3 => @ri_2 k1 r1 s1 T s t3 bX
    have x3 := fun t3 t10 => @ri_3 k1 r1 s1 T s t3 t10 bX
    obtain ⟨o1, o2, o3, o4⟩ := cM_opens (p := 10) (v := a) hM1 (by omega)
    rw [slM_row km1.2.1] at o2 o4
    rw [hk1] at r2 r3
    rw [r2] at x1 x2 x3
    have m1 := m1 q'
    have m2 := fun t5 => m2 t5 q'
    have m3 := fun t5 t18 => m3 t5 t18 q'
    rw [o2] at m1 m2 m3
    have kx1 : KX s (zsnd (fX0_read k1 186 s)) := KX_of (fun id z => r1' id (by omega) (by omega) (by omega) (by omega) (by omega)) kr
    have km2 : KM t1 (zsnd (fX10_opens 10 a t1)) := KM_of (fun id j z => o1 id j (by omega) (by omega) (by omega) (by omega) (by omega) (by omega)) o3
    generalize hNA : slM t a = NA at *
    cases qa : rok NA with
    | false =>
      rw [x1 qa, m1 qa]
      simp only [zfst_mk, zsnd_mk]
      exact ⟨trivial, kx1, km1.trans km2, by rw [z2_I o3 5, f3]; exact h5⟩
    | true =>
      have x2 := fun t3 => x2 t3 qa
      have x3 := fun t3 t10 => x3 t3 t10 qa
      have m2 := fun t5 => m2 t5 qa
      have m3 := fun t5 t18 => m3 t5 t18 qa
      have r3 := (r3 qa).1
      have o4 := (o4 qa).1
      have x2 := x2 _ rfl
      have x3 := fun t10 => x3 _ t10 rfl
      have m2 := m2 _ rfl
      have m3 := fun t18 => m3 _ t18 rfl
      have wS : w4 (zsnd (fX10_opens 10 a t1)) 8 = S := by rw [w4_keep (t := zsnd (fX10_opens 10 a t1)) (s := t1) (fun j hj => o1 4 (8 + j) (by omega) (by omega) (by omega) (by omega) (by omega) (by omega))]; exact f2
      have eR : rN ((zsnd (fX0_read k1 186 s)).1 r1) 4 = slM t b := by rw [kx1.1 r1 (by omega)]; exact hr1
      have eK : rN ((zsnd (fX0_read k1 186 s)).1 k1) 4 = NA := by rw [kx1.1 k1 (by omega)]; exact hk1
      have eS : rN ((zsnd (fX0_read k1 186 s)).1 s1) 4 = S := by rw [kx1.1 s1 (by omega)]; exact hs1
      have kmt := km1.trans km2
      have z5 : (zsnd (fX10_opens 10 a t1)).2.2 5 = nI 0 := by rw [z2_I o3 5, f3]; exact h5
      generalize zsnd (fX0_read k1 186 s) = u1 at r1' r3 kr x2 x3 kx1 eR eK eS
      generalize zsnd (fX10_opens 10 a t1) = v1 at o1 o3 o4 m2 m3 km2 kmt wS z5
      have hXu := CX_keep hX kx1.keep
      have hMv := CM_keep hM kmt.1
      obtain ⟨g1, g2, g3⟩ := cX_read (ws := r1) (P := 191) hXu.1 (by omega) (by omega)
      have kg := k2_fX0_read r1 191 u1
      obtain ⟨p1, p2, p3, p4⟩ := cM_opens (p := 14) (v := b) hMv (by omega)
      rw [slM_row kmt.2.1] at p2 p4
      rw [eR] at g2 g3
      rw [g2] at x2 x3
      rw [p2] at m2 m3
      have kx2 : KX u1 (zsnd (fX0_read r1 191 u1)) := KX_of (fun id z => g1 id (by omega) (by omega) (by omega) (by omega) (by omega)) kg
      have km3 : KM v1 (zsnd (fX10_opens 14 b v1)) := KM_of (fun id j z => p1 id j (by omega) (by omega) (by omega) (by omega) (by omega) (by omega)) p3
      generalize hNR : slM t b = NR at *
      cases qb : rok NR with
      | false =>
        rw [x2 qb, m2 qb]
        simp only [zfst_mk, zsnd_mk]
        exact ⟨trivial, kx1.trans kx2, kmt.trans km3, by rw [z2_I p3 5]; exact z5⟩
      | true =>
        have x3 := fun t10 => x3 t10 qb
        have m3 := fun t18 => m3 t18 qb
        have g3 := (g3 qb).1
        have p4 := (p4 qb).1
        have A1 := rX_row (t := zsnd (fX0_read r1 191 u1)) r3 (fun i hi => g1 (186 + i) (by omega) (by omega) (by omega) (by omega) (by omega))
        have A2 := rM_row (t := zsnd (fX10_opens 14 b v1)) o4 (fun j z1 z2 => p1 2 j (by omega) (by omega) (by omega) (by omega) (by omega) (by omega))
        have wS2 : w4 (zsnd (fX10_opens 14 b v1)) 8 = S := by rw [w4_keep (t := zsnd (fX10_opens 14 b v1)) (s := v1) (fun j hj => p1 4 (8 + j) (by omega) (by omega) (by omega) (by omega) (by omega) (by omega))]; exact wS
        have eR2 : rN ((zsnd (fX0_read r1 191 u1)).1 r1) 4 = NR := by rw [kx2.1 r1 (by omega)]; exact eR
        have eK2 : rN ((zsnd (fX0_read r1 191 u1)).1 k1) 4 = NA := by rw [kx2.1 k1 (by omega)]; exact eK
        have eS2 : rN ((zsnd (fX0_read r1 191 u1)).1 s1) 4 = S := by rw [kx2.1 s1 (by omega)]; exact eS
        have kxt := kx1.trans kx2
        have kmu := kmt.trans km3
        have x3 := x3 _ rfl
        have m3 := m3 _ rfl
        generalize zsnd (fX0_read r1 191 u1) = u2 at g3 A1 eR2 eK2 eS2 kxt x3
        generalize zsnd (fX10_opens 14 b v1) = v2 at p4 A2 wS2 kmu m3
        have sb : slM v2 b = NR := (slM_row kmu.2.1 b).trans hNR
        have sa : slM v2 a = NA := (slM_row kmu.2.1 a).trans hNA
        obtain ⟨w1, w2, w3, w5⟩ := rgt_end (k1 := k1) (r1 := r1) (a := a) (b := b) A1 g3 A2 p4 (wS2.trans eS2.symm) (eK2.trans sa.symm) (eR2.trans sb.symm) (CX_keep hX kxt.keep) (CM_keep hM kmu.1) (HK_keep hk kxt.keep kmu.1) (TR_keep hT (kxt.2.1 36 (by omega)) (kmu.2.2.1 1 (by omega) (by omega))) hT4 n3 _ _ rfl rfl
        rw [x3, m3]
        simp only [zfst_mk, zsnd_mk]
        exact ⟨w1, kxt.trans w2, kmu.trans w3, w5⟩
  · have q' : 0 ≤ vX10_against 8 32 t1 := bM.mpr (Nat.not_lt.mp q)
    rw [decide_eq_false q] at bX
    rw [ri_0 bX, m0 q']
    simp only [zfst_mk, zsnd_mk]
    exact ⟨trivial, KX.refl s, km1, by rw [f3]; exact h5⟩
