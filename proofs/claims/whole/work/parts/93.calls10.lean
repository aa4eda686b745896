/-! calls on both sides: flip, about -/
theorem c_flip {T : Nat} {s t : zSt} (v k i : Int32) (h : GI T s t) : zfst (fX9_flip v k i s) = zfst (fX10_flip v k i t) ∧ GI T (zsnd (fX9_flip v k i s)) (zsnd (fX10_flip v k i t)) := by
  unfold fX9_flip fX10_flip
  rw [is_sl v s t]
  cases e : vX10_isSlot v t with
  | false => rw [cond_false, cond_false]; exact ⟨rfl, h⟩
  | true =>
    rw [cond_true, cond_true]
    unfold fX9_flip_a5 fX10_flip_a5
    rw [is_in k 31 s t (by omega)]
    cases e1 : vX10_in k (nI 0) (nI 31) t with
    | false => rw [cond_false, cond_false]; exact ⟨rfl, h⟩
    | true =>
      rw [cond_true, cond_true]
      unfold fX9_flip_a4 fX10_flip_a4
      rw [is_in i 7 s t (by omega)]
      cases e2 : vX10_in i (nI 0) (nI 7) t with
      | false => rw [cond_false, cond_false]; exact ⟨rfl, h⟩
      | true =>
        rw [cond_true, cond_true]
        have hv := (msl_of e).2
        have hk := (min_of (by omega) e1).2
        have hi := (min_of (by omega) e2).2
        clear e e1 e2
        unfold fX9_flip_a2 fX10_flip_a2
        dsimp only
        generalize v.toNatClampNeg = v at hv ⊢
        generalize k.toNatClampNeg = k at hk ⊢
        generalize i.toNatClampNeg = i at hi ⊢
        unfold vX8_bit
        have q1 : (8 * k + i) / 2 ^ 6 = k / 2 ^ 3 := by omega
        have q2 : (8 * k + i) % 2 ^ 6 = 8 * (k % 2 ^ 3) + i := by omega
        have hd : k / 2 ^ 3 < 4 := by omega
        rw [q1, q2]
        generalize 8 * (k % 2 ^ 3) + i = m
        generalize k / 2 ^ 3 = d at hd ⊢
        rw [h.wd hv d hd]
        have h2 := put_w (t.1 0 (4 * v + d) ^^^ zsl 1 m) h hv hd
        simp only [zfst_mk, zsnd_mk]
        refine ⟨?_, h2⟩
        rw [h2.wd hv d hd]
theorem bl_eq {s t : zSt} {row p : Nat} (e : rN (s.1 row) 4 = w4 t p) : ∀ i, i ≤ 256 → blX row s i = blM p t i
  | 0, _ => rfl
  | i + 1, hi => by
    unfold blX blM
    have e1 := vX8_bit_eq row 4 i 4 s (by omega)
    have e2 : vX10_bit p i t = w4 t p / 2 ^ i % 2 := vX10_bit_eq p i t (by omega)
    rw [e1, e2, e, bl_eq e i (by omega)]
    generalize w4 t p / 2 ^ i = m
    have hb : m % 2 = 0 ∨ m % 2 = 1 := by omega
    cases hb with
    | inl q => rw [q, if_neg (by decide), if_pos rfl]
    | inr q => rw [q, if_pos rfl, if_neg (by decide)]
section
variable {T : Nat} {s t : zSt} {v : Int32} {x : Int}
theorem ab_0 (h : GI T s t) (e : rN (s.1 (11 + v.toNatClampNeg)) 4 = w4 t 4) : zfst (fX9_about_a3 v s) = zfst (fX10_about_a3 t) ∧ GI T (zsnd (fX9_about_a3 v s)) (zsnd (fX10_about_a3 t)) := by
  unfold fX9_about_a3 fX10_about_a3 fX9_about_a1 fX10_about_a1 fX9_about_a2 fX10_about_a2
  rw [vX8_order_eq, vX10_against_eq, e, h.1.1.2.2.2.2.2.1, h.2.1.1.2.2.2.2.2.1, told_f, told_t]
  by_cases q : 0 ≤ cmp3 (w4 t 4) 57896044618658097711785492504343953926634992332820282019728792003956564819949
  · rw [if_pos q, if_pos q]; simp only [zfst_mk, zsnd_mk]; exact ⟨trivial, h⟩
  · rw [if_neg q, if_neg q]; simp only [zfst_mk, zsnd_mk]; exact ⟨trivial, h⟩
theorem ab_1 (h : GI T s t) (e : rN (s.1 (11 + v.toNatClampNeg)) 4 = w4 t 4) : zfst (fX9_about_a4 v s) = zfst (fX10_about_a6 t) ∧ GI T (zsnd (fX9_about_a4 v s)) (zsnd (fX10_about_a6 t)) := by
  unfold fX9_about_a4 fX10_about_a6 fX10_about_a4 fX10_about_a5
  have b : 0 ≤ vX10_against 4 32 t ↔ 7237005577332262213973186563042994240857116359379907606001950938285454250989 ≤ w4 t 4 := by rw [vX10_against_eq, cmp3_ge, h.2.1.1.2.2.2.2.2.2]
  rw [blo_eq h.1.2.1.1, e]
  by_cases q : w4 t 4 < 7237005577332262213973186563042994240857116359379907606001950938285454250989
  · rw [if_neg (fun z => absurd (b.mp z) (Nat.not_le.mpr q)), decide_eq_true q, told_t]; simp only [zfst_mk, zsnd_mk]; exact ⟨trivial, h⟩
  · rw [if_pos (b.mpr (Nat.not_lt.mp q)), decide_eq_false q, told_f]; simp only [zfst_mk, zsnd_mk]; exact ⟨trivial, h⟩
theorem up_M (h : GI T s t) (e : x = ((w4 t 4 % 2 ^ 255 : Nat) : Int)) : GI T s (fX10_unpack 40 4 t) ∧ mf (fX10_unpack 40 4 t) 40 x 1 := by
  obtain ⟨b1, b2⟩ := cM_unpack (r := 40) (p := 4) (s := t)
  rw [← e] at b2
  exact ⟨h.km (fun id j q => b1 id j (by omega)) (k2_fX10_unpack 40 4 t), b2⟩
theorem ab_2 (h : GI T s t) (x1 : zf s 202 x 1) (e : x = ((w4 t 4 % 2 ^ 255 : Nat) : Int)) : zfst (fX9_about_a5 s) = zfst (fX10_about_a9 t) ∧ GI T (zsnd (fX9_about_a5 s)) (zsnd (fX10_about_a9 t)) := by
  unfold fX9_about_a5 fX10_about_a9
  dsimp only
  obtain ⟨h2, m2⟩ := up_M h e
  generalize fX10_unpack 40 4 t = t2 at h2 m2 ⊢
  obtain ⟨i1, i2⟩ := cX_isZero x1 (by omega)
  obtain ⟨j1, j2⟩ := cM_isSame m2 h2.2.1.1.1 (by omega) (by omega) (by omega)
  rw [Int.sub_zero] at j2
  rw [i2, j2]
  have h3 := (h2.kx (fun id q => i1 id (by omega)) (k2_fX1_isZero 202 s)).km (fun id j q => j1 id j (by omega) (by omega) (by omega)) (k2_fX10_isSame 40 0 t2)
  clear i1 i2 j1 j2
  generalize zsnd (fX1_isZero 202 s) = s3 at h3 ⊢
  generalize zsnd (fX10_isSame 40 0 t2) = t3 at h3 ⊢
  generalize decide (x % 57896044618658097711785492504343953926634992332820282019728792003956564819949 = 0) = b
  cases b with
  | true => rw [cond_true, told_t]; unfold fX10_about_a8; simp only [zfst_mk, zsnd_mk]; exact ⟨trivial, h3⟩
  | false => rw [cond_false, told_f]; unfold fX10_about_a7; simp only [zfst_mk, zsnd_mk]; exact ⟨trivial, h3⟩
theorem ab_3 (h : GI T s t) (x1 : zf s 202 x 1) (e : x = ((w4 t 4 % 2 ^ 255 : Nat) : Int)) : zfst (fX9_about_a6 s) = zfst (fX10_about_a10 t) ∧ GI T (zsnd (fX9_about_a6 s)) (zsnd (fX10_about_a10 t)) := by
  unfold fX9_about_a6 fX10_about_a10
  dsimp only
  obtain ⟨h2, m2⟩ := up_M h e
  generalize fX10_unpack 40 4 t = t2 at h2 m2 ⊢
  obtain ⟨i1, i2⟩ := cX_isOdd x1 (by omega)
  obtain ⟨j1, j2⟩ := cM_lowest m2 (by omega)
  rw [i2, j2]
  have h3 := (h2.kx (fun id q => i1 id (by omega)) (k2_fX1_isOdd 202 s)).km (fun id j q => j1 id j (by omega) (by omega) (by omega)) (k2_fX10_lowest 40 t2)
  clear i1 i2 j1 j2
  generalize zsnd (fX1_isOdd 202 s) = s3 at h3 ⊢
  generalize zsnd (fX10_lowest 40 t2) = t3 at h3 ⊢
  generalize x % 57896044618658097711785492504343953926634992332820282019728792003956564819949 = r
  have hb : r % 2 = 0 ∨ r % 2 = 1 := by omega
  cases hb with
  | inl q => rw [q, decide_eq_false (by decide), told_f]; simp only [zfst_mk, zsnd_mk]; exact ⟨rfl, h3⟩
  | inr q => rw [q, decide_eq_true rfl, told_t]; simp only [zfst_mk, zsnd_mk]; exact ⟨rfl, h3⟩
theorem ab_4 (h : GI T s t) (e : rN (s.1 (11 + v.toNatClampNeg)) 4 = w4 t 4) : zfst (fX9_about_a7 v s) = zfst (fX10_about_a11 t) ∧ GI T (zsnd (fX9_about_a7 v s)) (zsnd (fX10_about_a11 t)) := by
  unfold fX9_about_a7 fX10_about_a11 vX8_bitLength
  rw [bl_eq e 256 (by omega)]
  simp only [zfst_mk, zsnd_mk]
  exact ⟨trivial, h⟩
end
theorem c_about {T : Nat} {s t : zSt} (v w : Int32) (h : GI T s t) : zfst (fX9_about v w s) = zfst (fX10_about v w t) ∧ GI T (zsnd (fX9_about v w s)) (zsnd (fX10_about v w t)) := by
  unfold fX9_about fX10_about
  rw [is_sl v s t]
  cases e : vX10_isSlot v t with
  | false => rw [cond_false, cond_false]; unfold fX9_about_a14 fX10_about_a18; simp only [zfst_mk, zsnd_mk]; exact ⟨trivial, h⟩
  | true =>
    rw [cond_true, cond_true]
    have hv := (msl_of e).2
    clear e
    unfold fX9_about_a13 fX10_about_a17
    dsimp only
    obtain ⟨f1, f2, f3⟩ := cM_from 4 v.toNatClampNeg t
    rw [is_in w 4 s t (by omega)]
    have hm : GI T s (fX10_fromSlot 4 v.toNatClampNeg t) := h.km (fun id j q => f1 id j (by omega)) (by show (fX10_fromSlot 4 v.toNatClampNeg t).2 = t.2; rw [f3])
    have e4 : rN (s.1 (11 + v.toNatClampNeg)) 4 = slM t v.toNatClampNeg := h.2.2.2.1 _ hv
    rw [← e4] at f2
    clear e4 f1 f3
    generalize fX10_fromSlot 4 v.toNatClampNeg t = t4 at hm f2 ⊢
    unfold fX10_about_a16 fX10_about_a15 fX10_about_a14 fX10_about_a13
    cases e1 : vX10_in w (nI 0) (nI 4) t with
    | false =>
      have z : ∀ j, j ≤ 4 → w ≠ nI j := fun j hj q => by
        rw [q, in_N t (by omega) (by omega), decide_eq_true hj] at e1
        cases e1
      rw [cond_false, if_neg (z 0 (by omega)), if_neg (z 1 (by omega)), if_neg (z 2 (by omega)), if_neg (z 3 (by omega)), if_neg (z 4 (by omega))]
      unfold fX9_about_a12 fX10_about_a12
      simp only [zfst_mk, zsnd_mk]
      exact ⟨trivial, hm⟩
    | true =>
      obtain ⟨ew, hw⟩ := min_of (b := 4) (by omega) e1
      clear e1
      rw [cond_true]
      unfold fX9_about_a11 fX9_about_a10 fX9_about_a9 fX9_about_a8
      dsimp only
      obtain ⟨a1, a2⟩ := cX_load (ws := 11 + v.toNatClampNeg) (out := 202) (s := s) (by omega)
      have hx := hm.kx (fun id q => a1 id (by omega)) (k2_fX1_load (11 + v.toNatClampNeg) 202 s)
      rw [← f2] at a2
      have e5 : rN ((fX1_load (11 + v.toNatClampNeg) 202 s).1 (11 + v.toNatClampNeg)) 4 = w4 t4 4 := by rw [a1 _ (by omega)]; exact f2.symm
      clear a1 f2 hm h
      generalize fX1_load (11 + v.toNatClampNeg) 202 s = s2 at a2 hx e5 ⊢
      generalize w.toNatClampNeg = n at ew hw ⊢
      rw [ew]
      clear ew
      match n, hw with
      | 0, _ => rw [if_pos (show nI 0 = nI 0 from rfl), if_pos (show nI 0 = nI 0 from rfl)]; exact ab_0 hx e5
      | 1, _ => rw [if_neg (show ¬ nI 1 = nI 0 by decide), if_neg (show ¬ nI 1 = nI 0 by decide), if_pos (show nI 1 = nI 1 from rfl), if_pos (show nI 1 = nI 1 from rfl)]; exact ab_1 hx e5
      | 2, _ => rw [if_neg (show ¬ nI 2 = nI 0 by decide), if_neg (show ¬ nI 2 = nI 0 by decide), if_neg (show ¬ nI 2 = nI 1 by decide), if_neg (show ¬ nI 2 = nI 1 by decide), if_pos (show nI 2 = nI 2 from rfl), if_pos (show nI 2 = nI 2 from rfl)]; exact ab_2 hx a2 rfl
      | 3, _ => rw [if_neg (show ¬ nI 3 = nI 0 by decide), if_neg (show ¬ nI 3 = nI 0 by decide), if_neg (show ¬ nI 3 = nI 1 by decide), if_neg (show ¬ nI 3 = nI 1 by decide), if_neg (show ¬ nI 3 = nI 2 by decide), if_neg (show ¬ nI 3 = nI 2 by decide), if_pos (show nI 3 = nI 3 from rfl), if_pos (show nI 3 = nI 3 from rfl)]; exact ab_3 hx a2 rfl
      | 4, _ => rw [if_neg (show ¬ nI 4 = nI 0 by decide), if_neg (show ¬ nI 4 = nI 0 by decide), if_neg (show ¬ nI 4 = nI 1 by decide), if_neg (show ¬ nI 4 = nI 1 by decide), if_neg (show ¬ nI 4 = nI 2 by decide), if_neg (show ¬ nI 4 = nI 2 by decide), if_neg (show ¬ nI 4 = nI 3 by decide), if_neg (show ¬ nI 4 = nI 3 by decide), if_pos (show nI 4 = nI 4 from rfl)]; exact ab_4 hx e5
