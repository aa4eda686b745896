/-! calls on both sides: compare, scalar, isPoint, key, sign, judge -/
theorem GI.nm {T : Nat} {s t : zSt} (h : GI T s t) : ∀ k, k < 4 → s.2.2 k = t.2.2 (k + 1)
  | 0, _ => h.2.2.2.2.2.2.2.2.1.1
  | 1, _ => h.2.2.2.2.2.2.2.2.1.2.1
  | 2, _ => h.2.2.2.2.2.2.2.2.1.2.2.1
  | 3, _ => h.2.2.2.2.2.2.2.2.1.2.2.2
  | k + 4, q => absurd q (by omega)
theorem GI.num {T k : Nat} {s t : zSt} (x : Int32) (h : GI T s t) (hk : k < 4) : GI T (zI s k x) (zI t (k + 1) x) := by
  have hn := h.nm
  obtain ⟨h1, h2, h3, h4, h6, h7, h8, h9, -, h14⟩ := h
  have F : ∀ j, j < 4 → (zI s k x).2.2 j = (zI t (k + 1) x).2.2 (j + 1) := fun j hj => by
    by_cases q : j = k
    · rw [q, zI_s, zI_s]
    · rw [zI_n _ _ q, zI_n _ _ (by omega)]
      exact hn j hj
  have kx : keepX s (zI s k x) := fun _ _ => rfl
  have km : keepM t (zI t (k + 1) x) := ⟨fun _ _ => rfl, fun _ _ _ => rfl, rfl, rfl⟩
  exact ⟨CX_keep h1 kx, CM_keep h2 km, HK_keep h3 kx km, h4, h6, (zI_n _ _ (by omega)).trans h7, (zI_n _ _ (by omega)).trans h8, TR_keep h9 rfl rfl, ⟨F 0 (by omega), F 1 (by omega), F 2 (by omega), F 3 (by omega)⟩, (zI_n _ _ (by omega)).trans h14⟩
theorem GI.add {T k : Nat} {s t : zSt} (x : Int32) (h : GI T s t) (hk : k < 4) : GI T (zI s k (s.2.2 k + x)) (zI t (k + 1) (t.2.2 (k + 1) + x)) := by
  rw [h.nm k hk]
  exact h.num _ hk
theorem GI.sub {T k : Nat} {s t : zSt} (x : Int32) (h : GI T s t) (hk : k < 4) : GI T (zI s k (s.2.2 k - x)) (zI t (k + 1) (t.2.2 (k + 1) - x)) := by
  rw [h.nm k hk]
  exact h.num _ hk
theorem in_N {n b : Nat} (t : zSt) (hn : n < 2 ^ 31) (hb : b < 2 ^ 31) : vX10_in (nI n) (nI 0) (nI b) t = decide (n ≤ b) := by
  unfold vX10_in fX10_in_a1 fX10_in_a4 fX10_in_a2 fX10_in_a3
  rw [if_neg (fun z => by rw [Int32.lt_iff_toInt_lt, nI_toInt hn, nI_toInt (by omega)] at z; omega)]
  have e : nI b < nI n ↔ ¬ n ≤ b := by
    rw [Int32.lt_iff_toInt_lt, nI_toInt hn, nI_toInt hb]
    omega
  by_cases q : n ≤ b
  · rw [if_neg (fun z => e.mp z q), decide_eq_true q]
  · rw [if_pos (e.mpr q), decide_eq_false q]
theorem pr_2 {x : Int32} {t : zSt} (s : zSt) (h : vX10_isSlot x t = true) : vX9_isPair x s = vX10_isSlot (nI (x.toNatClampNeg + 1)) t := by
  obtain ⟨e, hb⟩ := msl_of h
  have e1 : vX9_isPair x s = vX10_in x (nI 0) (nI 22) t := is_in x 22 s t (by omega)
  have e2 : vX10_isSlot (nI (x.toNatClampNeg + 1)) t = vX10_in (nI (x.toNatClampNeg + 1)) (nI 0) (nI 23) t := rfl
  rw [e1, e2]
  clear e1 e2 h
  generalize x.toNatClampNeg = n at e hb ⊢
  rw [e, in_N t (by omega) (by omega), in_N t (by omega) (by omega)]
  exact decide_eq_decide.mpr (by omega)
theorem pr_1 {x : Int32} {t : zSt} (s : zSt) (h : vX10_isSlot x t = false) : vX9_isPair x s = false := by
  cases q : vX9_isPair x s with
  | false => rfl
  | true =>
    obtain ⟨e, hb⟩ := pr_of q
    have e2 : vX10_isSlot x t = vX10_in x (nI 0) (nI 23) t := rfl
    rw [e2] at h
    clear q e2
    generalize x.toNatClampNeg = n at e hb
    rw [e, in_N t (by omega) (by omega), decide_eq_true (by omega)] at h
    exact h
theorem c_compare {T : Nat} {s t : zSt} (a b : Int32) (h : GI T s t) : vX9_compare a b s = zfst (fX10_compare a b t) ∧ GI T s (zsnd (fX10_compare a b t)) := by
  unfold vX9_compare fX10_compare
  rw [is_sl a s t]
  cases e : vX10_isSlot a t with
  | false => rw [cond_false, cond_false]; exact ⟨rfl, h⟩
  | true =>
    rw [cond_true, cond_true]
    unfold fX9_compare_a4 fX10_compare_a4
    rw [is_sl b s t]
    cases e2 : vX10_isSlot b t with
    | false => rw [cond_false, cond_false]; exact ⟨rfl, h⟩
    | true =>
      rw [cond_true, cond_true]
      unfold fX9_compare_a2 fX10_compare_a2
      dsimp only
      simp only [zfst_mk, zsnd_mk]
      have ha := (msl_of e).2
      have hb := (msl_of e2).2
      generalize a.toNatClampNeg = a at ha ⊢
      generalize b.toNatClampNeg = b at hb ⊢
      obtain ⟨f1, f2, f3⟩ := cM_from 4 a t
      generalize fX10_fromSlot 4 a t = t1 at f1 f2 f3 ⊢
      obtain ⟨g1, g2, g3⟩ := cM_from 8 b t1
      rw [slM_row (t := t1) (s := t) (funext fun j => f1 0 j (by omega))] at g2
      generalize fX10_fromSlot 8 b t1 = t2 at g1 g2 g3 ⊢
      refine ⟨?_, h.keep (KX.refl s) (KM_of (fun id j q => by rw [g1 id j (by omega), f1 id j (by omega)]) (by show t2.2 = t.2; rw [g3, f3])) (by rw [g3, f3]; exact h.h5)⟩
      rw [vX8_order_eq, vX10_against_eq, g2, w4_keep (t := t2) (s := t1) (fun j hj => g1 4 (4 + j) (by omega)), f2, ← h.2.2.2.1 a ha, ← h.2.2.2.1 b hb]
      rfl
theorem put_mad {T a b c u : Nat} {s t : zSt} (h : GI T s t) (ha : a < 24) (hb : b < 24) (hc : c < 24) (hu : u < 24) : GI T (fX4_multiplyAndAdd (11 + a) (11 + b) (11 + c) (11 + u) s) (fX10_toSlot u 16 (fX10_scalarOf 16 4 8 12 (fX10_fromSlot 12 c (fX10_fromSlot 8 b (fX10_fromSlot 4 a t))))) := by
  obtain ⟨m1, m2⟩ := sX_mad (a := 11 + a) (b := 11 + b) (e := 11 + c) (out := 11 + u) h.1.2.1 (by omega) (by omega) (by omega)
  have m3 := k2_fX4_multiplyAndAdd (11 + a) (11 + b) (11 + c) (11 + u) s
  generalize fX4_multiplyAndAdd (11 + a) (11 + b) (11 + c) (11 + u) s = s' at m1 m2 m3 ⊢
  obtain ⟨f1, f2, f3⟩ := cM_from 4 a t
  generalize fX10_fromSlot 4 a t = t1 at f1 f2 f3 ⊢
  obtain ⟨g1, g2, g3⟩ := cM_from 8 b t1
  rw [slM_row (t := t1) (s := t) (funext fun j => f1 0 j (by omega))] at g2
  generalize fX10_fromSlot 8 b t1 = t2 at g1 g2 g3 ⊢
  obtain ⟨i1, i2, i3⟩ := cM_from 12 c t2
  rw [slM_row (t := t2) (s := t) (funext fun j => by rw [g1 0 j (by omega), f1 0 j (by omega)])] at i2
  generalize fX10_fromSlot 12 c t2 = t3 at i1 i2 i3 ⊢
  have km : KM t t3 := KM_of (fun id j q => by rw [i1 id j (by omega), g1 id j (by omega), f1 id j (by omega)]) (by show t3.2 = t.2; rw [i3, g3, f3])
  obtain ⟨n1, n2⟩ := cM_sof (p := 16) (a := 4) (b := 8) (e := 12) (CM_keep h.2.1 km.1).1.2.2.2.2.2.2
  have n3 := k2_fX10_scalarOf 16 4 8 12 t3
  generalize fX10_scalarOf 16 4 8 12 t3 = t4 at n1 n2 n3 ⊢
  have km2 : KM t t4 := km.trans (KM_of (fun id j q => n1 id j (by omega) (by omega) (by omega)) n3)
  have w1 : w4 t3 4 = slM t a := by rw [w4_keep (t := t3) (s := t2) (fun j hj => i1 4 (4 + j) (by omega)), w4_keep (t := t2) (s := t1) (fun j hj => g1 4 (4 + j) (by omega)), f2]
  have w2 : w4 t3 8 = slM t b := by rw [w4_keep (t := t3) (s := t2) (fun j hj => i1 4 (8 + j) (by omega)), g2]
  rw [w1, w2, i2] at n2
  obtain ⟨p1, p2, p3, p4⟩ := cM_to u 16 t4
  generalize fX10_toSlot u 16 t4 = t5 at p1 p2 p3 p4 ⊢
  have z4 : ∀ k, t5.2.2 k = t.2.2 k := fun k => by rw [p4, z2_I n3 k, i3, g3, f3]
  refine h.put (u := u) (fun id q q2 => m1 id (by omega) (by omega) (by omega) q2) hu (km2.1.trans ⟨fun j q => p1 2 j (by omega), fun j q q2 => p1 4 j (by omega), funext fun j => p1 5 j (by omega), funext fun j => p1 6 j (by omega)⟩) (fun w q => by rw [p3 w q, slM_row km2.2.1]) ?_ (z2_B m3 36) (fun k _ => z2_I m3 k) (by rw [p4]; exact km2.2.2.1 1 (by omega) (by omega)) (fun k _ => z4 k) ((z4 5).trans h.h5)
  rw [m2, p2, n2, ← h.2.2.2.1 a ha, ← h.2.2.2.1 b hb, ← h.2.2.2.1 c hc]
  rfl
theorem c_scalar {T : Nat} {s t : zSt} (a b c u : Int32) (h : GI T s t) : zfst (fX9_scalar a b c u s) = zfst (fX10_scalar a b c u t) ∧ GI T (zsnd (fX9_scalar a b c u s)) (zsnd (fX10_scalar a b c u t)) := by
  unfold fX9_scalar fX10_scalar
  rw [is_sl a s t]
  cases e : vX10_isSlot a t with
  | false => rw [cond_false, cond_false]; exact ⟨rfl, h⟩
  | true =>
    rw [cond_true, cond_true]
    unfold fX9_scalar_a8 fX10_scalar_a8
    rw [is_sl b s t]
    cases e2 : vX10_isSlot b t with
    | false => rw [cond_false, cond_false]; exact ⟨rfl, h⟩
    | true =>
      rw [cond_true, cond_true]
      unfold fX9_scalar_a7 fX10_scalar_a7
      rw [is_sl c s t]
      cases e3 : vX10_isSlot c t with
      | false => rw [cond_false, cond_false]; exact ⟨rfl, h⟩
      | true =>
        rw [cond_true, cond_true]
        unfold fX9_scalar_a6 fX10_scalar_a6
        rw [is_sl u s t]
        cases e4 : vX10_isSlot u t with
        | false => rw [cond_false, cond_false]; exact ⟨rfl, h⟩
        | true =>
          rw [cond_true, cond_true]
          unfold fX9_scalar_a4 fX10_scalar_a4
          dsimp only
          simp only [zfst_mk, zsnd_mk]
          exact ⟨trivial, put_mad h (msl_of e).2 (msl_of e2).2 (msl_of e3).2 (msl_of e4).2⟩
theorem put_key {T a u : Nat} {s t : zSt} (h : GI T s t) (ha : a < 24) (hu : u < 24) : GI T (fX6_makeKey (11 + a) (11 + u) s) (fX10_toSlot u 28 (fX10_open_ a t)) := by
  obtain ⟨k1, k2, k3, k4, k5, k6⟩ := key_rel (ws := 11 + a) (v := a) (out := 11 + u) (h.2.2.2.1 a ha) h.1 h.2.1 h.2.2.1 (by omega)
  generalize fX6_makeKey (11 + a) (11 + u) s = s' at k1 k2 k3 k4 ⊢
  generalize fX10_open_ a t = t1 at k1 k5 k6 ⊢
  obtain ⟨p1, p2, p3, p4⟩ := cM_to u 28 t1
  generalize fX10_toSlot u 28 t1 = t5 at p1 p2 p3 p4 ⊢
  refine h.put (u := u) (fun id q q2 => k2 id q q2) hu (k5.1.trans ⟨fun j q => p1 2 j (by omega), fun j q q2 => p1 4 j (by omega), funext fun j => p1 5 j (by omega), funext fun j => p1 6 j (by omega)⟩) (fun w q => by rw [p3 w q, slM_row k5.2.1]) (k1.trans p2.symm) (k3 36 (by omega)) (fun k _ => k4 k (by omega)) (by rw [p4]; exact k5.2.2.1 1 (by omega) (by omega)) (fun k _ => by rw [p4]; exact k5.2.2.2 k (by omega)) (by rw [p4]; exact k6)
theorem c_key {T : Nat} {s t : zSt} (a u : Int32) (h : GI T s t) : zfst (fX9_key a u s) = zfst (fX10_key a u t) ∧ GI T (zsnd (fX9_key a u s)) (zsnd (fX10_key a u t)) := by
  unfold fX9_key fX10_key
  rw [is_sl a s t]
  cases e : vX10_isSlot a t with
  | false => rw [cond_false, cond_false]; exact ⟨rfl, h⟩
  | true =>
    rw [cond_true, cond_true]
    unfold fX9_key_a6 fX10_key_a6
    rw [is_sl u s t]
    cases e2 : vX10_isSlot u t with
    | false => rw [cond_false, cond_false]; exact ⟨rfl, h⟩
    | true =>
      rw [cond_true, cond_true]
      unfold fX9_key_a4 fX10_key_a4
      have en := h.nm 0 (by omega)
      by_cases q : nI 1 ≤ t.2.2 1
      · rw [if_pos (en ▸ q), if_pos q]
        unfold fX9_key_a2 fX10_key_a2
        dsimp only
        simp only [zfst_mk, zsnd_mk]
        exact ⟨trivial, put_key (h.sub (k := 0) (nI 1) (by omega)) (msl_of e).2 (msl_of e2).2⟩
      · rw [if_neg (en ▸ q), if_neg q]
        exact ⟨rfl, h⟩
