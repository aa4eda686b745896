/-! calls on both sides: digest, count, flip -/
theorem c_count {T : Nat} {s t : zSt} (w : Int32) (h : GI T s t) : vX9_count w s = vX10_count w t := by
  unfold vX9_count vX10_count fX9_count_a10 fX10_count_a10 fX9_count_a9 fX10_count_a9 fX9_count_a8 fX10_count_a8 fX9_count_a7 fX10_count_a7 fX9_count_a6 fX10_count_a6 fX9_count_a5 fX10_count_a5 fX9_count_a4 fX10_count_a4 fX9_count_a3 fX10_count_a3 fX9_count_a2 fX10_count_a2 fX9_count_a1 fX10_count_a1
  rw [h.2.2.2.2.2.1, h.2.2.2.2.2.2.1, h.nm 0 (by omega), h.nm 1 (by omega), h.nm 2 (by omega), h.nm 3 (by omega)]
theorem trn_s (w : Int64) (s t : zSt) : vX5_turned w s = vX5_turned w t := rfl
theorem put_dig {T u : Nat} {s t t6 : zSt} (h : GI T s t) (hu : u + 1 < 24) (e6 : t6 = fX5_finish 204 (0 + T) (fX5_takeText 0 T (fX5_begin s))) :
    GI T (zL (zL t6 (11 + u) (va_cpy (t6.1 204) (t6.1 (11 + u)) 0 0 4)) (11 + (u + 1)) (va_cpy ((zL t6 (11 + u) (va_cpy (t6.1 204) (t6.1 (11 + u)) 0 0 4)).1 204) ((zL t6 (11 + u) (va_cpy (t6.1 204) (t6.1 (11 + u)) 0 0 4)).1 (11 + (u + 1))) 4 0 4))
      (fX10_toSlot (u + 1) 8 (fX10_toSlot u 4 (fX10_digestWords 8 (8 * 4) (fX10_digestWords 4 (8 * 0) (fX10_digests (0 + T) (fX10_tellText 0 T t)))))) := by
  have b := bg_X s
  generalize fX5_begin s = s0 at b e6
  obtain ⟨c1, c2, c3⟩ := MR_text (L := 0) (T := T) (MR_0 s0 t) (TR_keep h.2.2.2.2.2.2.2.1 (by rw [b.2.1 36 (by omega)]) rfl)
  have hT4 := h.2.2.2.2.1
  generalize fX5_takeText 0 T s0 = s1 at c1 c2 e6
  generalize fX10_tellText 0 T t = t1 at c1 c3 ⊢
  obtain ⟨W, h1, h2, h3, h4, h5, h6, h7, h8, h9⟩ := sha_rel (out := 204) c1 (by omega) (fun i hi => by rw [c2.1, b.1, c3.1]; exact h.2.2.1.1 i hi) (fun i hi => by rw [c2.1, b.1, c3.1]; exact h.2.2.1.2 i hi) (by omega)
  rw [← e6] at h1 h3 h4 h5
  clear e6
  generalize fX10_digests (0 + T) t1 = t2 at h2 h6 h7 h8 h9 ⊢
  obtain ⟨d1, d2', d3⟩ := dgw (p := 4) (q := 0) h2 (by omega)
  generalize fX10_digestWords 4 (8 * 0) t2 = t3 at d1 d2' d3 ⊢
  have h2' : DG W t3 := fun i hi => by rw [d2']; exact h2 i hi
  obtain ⟨e1, e2, e3⟩ := dgw (p := 8) (q := 4) h2' (by omega)
  generalize fX10_digestWords 8 (8 * 4) t3 = t4 at e1 e2 e3 ⊢
  obtain ⟨p1, p2, p3, p4⟩ := cM_to u 4 t4
  have pw : w4 (fX10_toSlot u 4 t4) 8 = w4 t4 8 := w4_keep (fun j hj => p1 4 (8 + j) (by omega))
  generalize fX10_toSlot u 4 t4 = t5 at p1 p2 p3 p4 pw ⊢
  obtain ⟨q1, q2, q3, q4⟩ := cM_to (u + 1) 8 t5
  generalize fX10_toSlot (u + 1) 8 t5 = t7 at q1 q2 q3 q4 ⊢
  have er : ∀ id, id ≠ 177 → id ≠ 178 → id ≠ 204 → t6.1 id = s.1 id := fun id z1 z2 z3 => by rw [h3 id z1 z2 z3, c2.1, b.1]
  have em : ∀ id j, id ≠ 11 → id ≠ 12 → id ≠ 13 → ¬ (id = 0 ∧ 4 * u ≤ j ∧ j < 4 * u + 8) → ¬ (id = 4 ∧ 4 ≤ j ∧ j < 12) → t7.1 id j = t.1 id j := fun id j z1 z2 z3 z4 z5 => by rw [q1 id j (by omega), p1 id j (by omega), e1 id j (by omega), d1 id j (by omega), h6 id z1 z2 z3, c3.1]
  have x1 : ∀ id, id ≠ 11 + u → (zL t6 (11 + u) (va_cpy (t6.1 204) (t6.1 (11 + u)) 0 0 4)).1 id = t6.1 id := fun id z => zL_n _ _ z
  have x2 : ∀ i, i < 4 → (zL t6 (11 + u) (va_cpy (t6.1 204) (t6.1 (11 + u)) 0 0 4)).1 (11 + u) i = t6.1 204 i := fun i hi => by rw [zL_s, pk_cpy_in (Nat.zero_le _) (by omega), show 0 + (i - 0) = i by omega]
  have x3 : (zL t6 (11 + u) (va_cpy (t6.1 204) (t6.1 (11 + u)) 0 0 4)).2 = t6.2 := rfl
  generalize zL t6 (11 + u) (va_cpy (t6.1 204) (t6.1 (11 + u)) 0 0 4) = s7 at x1 x2 x3 ⊢
  have y1 : ∀ id, id ≠ 11 + (u + 1) → (zL s7 (11 + (u + 1)) (va_cpy (s7.1 204) (s7.1 (11 + (u + 1))) 4 0 4)).1 id = s7.1 id := fun id z => zL_n _ _ z
  have y2 : ∀ i, i < 4 → (zL s7 (11 + (u + 1)) (va_cpy (s7.1 204) (s7.1 (11 + (u + 1))) 4 0 4)).1 (11 + (u + 1)) i = s7.1 204 (4 + i) := fun i hi => by rw [zL_s, pk_cpy_in (Nat.zero_le _) (by omega), show 4 + (i - 0) = 4 + i by omega]
  have y3 : (zL s7 (11 + (u + 1)) (va_cpy (s7.1 204) (s7.1 (11 + (u + 1))) 4 0 4)).2 = s7.2 := rfl
  generalize zL s7 (11 + (u + 1)) (va_cpy (s7.1 204) (s7.1 (11 + (u + 1))) 4 0 4) = s8 at y1 y2 y3 ⊢
  refine h.next (fun id z => by rw [y1 id (by omega), x1 id (by omega), er id (by omega) (by omega) (by omega)]) ⟨fun j z => em 2 j (by omega) (by omega) (by omega) (by omega) (by omega), fun j z z2 => em 4 j (by omega) (by omega) (by omega) (by omega) (by omega), funext fun j => em 5 j (by omega) (by omega) (by omega) (by omega) (by omega), funext fun j => em 6 j (by omega) (by omega) (by omega) (by omega) (by omega)⟩ (fun v hv => ?_) (by rw [y3, x3, h4 36 (by omega), c2.2.1 36 (by omega), b.2.1 36 (by omega)]) (fun k hk => by rw [y3, x3, h5 k (by omega), c2.2.2 k (by omega), b.2.2 k (by omega)]) (by rw [q4, p4, e2, d2', h7 1 (by omega) (by omega), c3.2.1 1 (by omega)]) (fun k hk => by rw [q4, p4, e2, d2', h8 k (by omega), c3.2.2 k (by omega)]) (by rw [q4, p4, e2, d2', h9])
  by_cases z1 : v = u + 1
  · rw [z1, q2, pw]
    refine rN_congr (fun i hi => ?_)
    rw [y2 i hi, x1 204 (by omega), h1 (4 + i) (by omega), e3 i hi]
    rfl
  · by_cases z2 : v = u
    · rw [z2, q3 u (by omega), p2]
      refine rN_congr (fun i hi => ?_)
      rw [y1 (11 + u) (by omega), x2 i hi, h1 i (by omega), e1 4 (4 + i) (by omega), d3 i hi, Nat.zero_add]
      rfl
    · rw [q3 v z1, p3 v z2]
      have r0 : t4.1 0 = t.1 0 := funext fun j => by rw [e1 0 j (by omega), d1 0 j (by omega), h6 0 (by omega) (by omega) (by omega), c3.1]
      rw [slM_row r0, ← h.2.2.2.1 v hv]
      unfold slX
      rw [y1 (11 + v) (by omega), x1 (11 + v) (by omega), er (11 + v) (by omega) (by omega) (by omega)]
theorem dg_X {u : Int32} {T : Nat} {s t6 : zSt} (e6 : t6 = fX5_finish 204 (0 + T) (fX5_takeText 0 T (fX5_begin s))) : fX9_digest_a1 u T s = (nI 1, zL (zL t6 (11 + u.toNatClampNeg) (va_cpy (t6.1 204) (t6.1 (11 + u.toNatClampNeg)) 0 0 4)) (11 + (u.toNatClampNeg + 1)) (va_cpy ((zL t6 (11 + u.toNatClampNeg) (va_cpy (t6.1 204) (t6.1 (11 + u.toNatClampNeg)) 0 0 4)).1 204) ((zL t6 (11 + u.toNatClampNeg) (va_cpy (t6.1 204) (t6.1 (11 + u.toNatClampNeg)) 0 0 4)).1 (11 + (u.toNatClampNeg + 1))) 4 0 4)) := by
  unfold fX9_digest_a1
  dsimp only
  rw [← e6]
theorem c_digest {T : Nat} {s t : zSt} (u : Int32) (h : GI T s t) : zfst (fX9_digest u T s) = zfst (fX10_digest u T t) ∧ GI T (zsnd (fX9_digest u T s)) (zsnd (fX10_digest u T t)) := by
  unfold fX9_digest fX10_digest
  cases e2 : vX10_isSlot u t with
  | false => rw [pr_1 s e2, cond_false, cond_false]; exact ⟨rfl, h⟩
  | true =>
    rw [pr_2 s e2, cond_true]
    unfold fX10_digest_a4
    cases e3 : vX10_isSlot (nI (u.toNatClampNeg + 1)) t with
    | false => rw [cond_false, cond_false]; exact ⟨rfl, h⟩
    | true =>
      rw [cond_true, cond_true]
      have hu := (msl_of e2).2
      have hu1 : u.toNatClampNeg + 1 < 24 := msl_N (by omega) e3
      obtain ⟨t6, e6⟩ : ∃ t6, t6 = fX5_finish 204 (0 + T) (fX5_takeText 0 T (fX5_begin s)) := ⟨_, rfl⟩
      rw [dg_X e6]
      have h2 := put_dig h hu1 e6
      clear e6
      unfold fX10_digest_a2
      dsimp only
      simp only [zfst_mk, zsnd_mk]
      exact ⟨trivial, h2⟩
