/-! both stores between two calls, and the calls that write a slot or the text -/
/-- the relation of both stores between calls: T bytes of text stand -/
def GI (T : Nat) (s t : zSt) : Prop := CX s ∧ CM t ∧ HK s t ∧ (∀ v, v < 24 → slX s v = slM t v) ∧ T ≤ 400 ∧ s.2.2 4 = nI T ∧ t.2.2 0 = nI T ∧ TR T s t ∧ (s.2.2 0 = t.2.2 1 ∧ s.2.2 1 = t.2.2 2 ∧ s.2.2 2 = t.2.2 3 ∧ s.2.2 3 = t.2.2 4) ∧ t.2.2 5 = nI 0
theorem GI.next {T : Nat} {s t s' t' : zSt} (h : GI T s t) (a : keepX s s') (b : keepM t t') (w : ∀ v, v < 24 → slX s' v = slM t' v) (x : s'.2.1 36 = s.2.1 36) (x2 : ∀ k, k < 5 → s'.2.2 k = s.2.2 k) (y : t'.2.1 1 = t.2.1 1) (y2 : ∀ k, k < 5 → t'.2.2 k = t.2.2 k) (h5 : t'.2.2 5 = nI 0) : GI T s' t' := by
  obtain ⟨h1, h2, h3, h4, h6, h7, h8, h9, ⟨h10, h11, h12, h13⟩, h14⟩ := h
  exact ⟨CX_keep h1 a, CM_keep h2 b, HK_keep h3 a b, w, h6, (x2 4 (by omega)).trans h7, (y2 0 (by omega)).trans h8, TR_keep h9 x y, ⟨by rw [x2 0 (by omega), y2 1 (by omega)]; exact h10, by rw [x2 1 (by omega), y2 2 (by omega)]; exact h11, by rw [x2 2 (by omega), y2 3 (by omega)]; exact h12, by rw [x2 3 (by omega), y2 4 (by omega)]; exact h13⟩, h5⟩
/-- one slot is written -/
theorem GI.put {T u : Nat} {s t s' t' : zSt} (h : GI T s t) (a : ∀ id, (id < 40 ∨ (66 < id ∧ id < 75)) → id ≠ 11 + u → s'.1 id = s.1 id) (hu : u < 24) (b : keepM t t') (w : ∀ v, v ≠ u → slM t' v = slM t v) (e : rN (s'.1 (11 + u)) 4 = slM t' u) (x : s'.2.1 36 = s.2.1 36) (x2 : ∀ k, k < 5 → s'.2.2 k = s.2.2 k) (y : t'.2.1 1 = t.2.1 1) (y2 : ∀ k, k < 5 → t'.2.2 k = t.2.2 k) (h5 : t'.2.2 5 = nI 0) : GI T s' t' := by
  refine h.next (fun id q => a id (by omega) (by omega)) b (fun v hv => ?_) x x2 y y2 h5
  by_cases q : v = u
  · rw [q]
    exact e
  · rw [w v q, ← h.2.2.2.1 v hv]
    unfold slX
    rw [a (11 + v) (by omega) (by omega)]
/-- no slot is written -/
theorem GI.keep {T : Nat} {s t s' t' : zSt} (h : GI T s t) (a : KX s s') (b : KM t t') (h5 : t'.2.2 5 = nI 0) : GI T s' t' := by
  refine h.next a.keep b.1 (fun v hv => ?_) (a.2.1 36 (by omega)) (fun k _ => a.2.2 k (by omega)) (b.2.2.1 1 (by omega) (by omega)) (fun k _ => b.2.2.2 k (by omega)) h5
  rw [slM_row b.2.1, ← h.2.2.2.1 v hv]
  unfold slX
  rw [a.1 (11 + v) (by omega)]
theorem GI.wd {T : Nat} {s t : zSt} (h : GI T s t) {v : Nat} (hv : v < 24) : ∀ i, i < 4 → s.1 (11 + v) i = t.1 0 (4 * v + i) := rN_inj (h.2.2.2.1 v hv)
theorem GI.h5 {T : Nat} {s t : zSt} (h : GI T s t) : t.2.2 5 = nI 0 := h.2.2.2.2.2.2.2.2.2
theorem is_in (x : Int32) (b : Nat) (s t : zSt) (hb : b + 1 < 2 ^ 31) : vX9_isWithin x (nI (b + 1)) s = vX10_in x (nI 0) (nI b) t := by
  unfold vX9_isWithin fX9_isWithin_a1 fX9_isWithin_a4 fX9_isWithin_a2 fX9_isWithin_a3 vX10_in fX10_in_a1 fX10_in_a4 fX10_in_a2 fX10_in_a3
  have e : nI (b + 1) ≤ x ↔ nI b < x := by
    rw [Int32.le_iff_toInt_le, Int32.lt_iff_toInt_lt, nI_toInt (by omega), nI_toInt (by omega)]
    omega
  by_cases h1 : x < 0
  · rw [if_pos h1, if_pos (show x < nI 0 from h1)]
  · rw [if_neg h1, if_neg (show ¬ x < nI 0 from h1)]
    by_cases h2 : nI b < x
    · rw [if_pos h2, if_pos (e.mpr h2)]
    · rw [if_neg h2, if_neg (fun z => h2 (e.mp z))]
theorem is_sl (x : Int32) (s t : zSt) : vX9_isSlot x s = vX10_isSlot x t := is_in x 23 s t (by omega)
theorem put_w {T : Nat} {s t : zSt} {v i : Nat} (x : Int64) (h : GI T s t) (hv : v < 24) (hi : i < 4) : GI T (zW s (11 + v) i x) (zW t 0 (4 * v + i) x) := by
  refine h.put (u := v) (fun id _ q => zW_ne _ _ _ q) hv ⟨fun j q => by rw [zW_ne _ _ _ (by omega)], fun j q q2 => by rw [zW_ne _ _ _ (by omega)], zW_ne _ _ _ (by omega), zW_ne _ _ _ (by omega)⟩ (fun w q => ?_) ?_ rfl (fun _ _ => rfl) rfl (fun _ _ => rfl) h.h5
  · refine rN_congr (fun j hj => ?_)
    rw [zW_at, pk_uLn (by omega)]
  · rw [zW_at]
    refine rN_congr (fun j hj => ?_)
    rw [zW_at]
    by_cases q : j = i
    · rw [q, pk_uLs, pk_uLs]
    · rw [pk_uLn q, pk_uLn (by omega)]
      exact h.wd hv j hj
theorem c_set {T : Nat} {s t : zSt} (v i : Int32) (x : Int64) (h : GI T s t) : zfst (fX9_set v i x s) = zfst (fX10_set v i x t) ∧ GI T (zsnd (fX9_set v i x s)) (zsnd (fX10_set v i x t)) := by
  unfold fX9_set fX10_set
  rw [is_sl v s t]
  cases e : vX10_isSlot v t with
  | false => rw [cond_false, cond_false]; exact ⟨rfl, h⟩
  | true =>
    rw [cond_true, cond_true]
    unfold fX9_set_a3 fX10_set_a3
    rw [is_in i 3 s t (by omega)]
    cases e2 : vX10_in i (nI 0) (nI 3) t with
    | false => rw [cond_false, cond_false]; exact ⟨rfl, h⟩
    | true => rw [cond_true, cond_true]; exact ⟨rfl, put_w x h (msl_of e).2 (min_of (by omega) e2).2⟩
theorem c_word {T : Nat} {s t : zSt} (v i : Int32) (h : GI T s t) : vX9_word v i s = vX10_word v i t := by
  unfold vX9_word vX10_word
  rw [is_sl v s t]
  cases e : vX10_isSlot v t with
  | false => rw [cond_false, cond_false]; rfl
  | true =>
    rw [cond_true, cond_true]
    unfold fX9_word_a4 fX10_word_a4
    rw [is_in i 3 s t (by omega)]
    cases e2 : vX10_in i (nI 0) (nI 3) t with
    | false => rw [cond_false, cond_false]; rfl
    | true => rw [cond_true, cond_true]; exact h.wd (msl_of e).2 _ (min_of (by omega) e2).2
theorem put_c {T u v : Nat} {s t : zSt} (h : GI T s t) (hv : v < 24) (hu : u < 24) : GI T (fX8_move (11 + v) (11 + u) s) (fX10_toSlot u 4 (fX10_fromSlot 4 v t)) := by
  have a1 : ∀ id, id ≠ 11 + u → (fX8_move (11 + v) (11 + u) s).1 id = s.1 id := fun id q => zL_n _ _ q
  have a2 : rN ((fX8_move (11 + v) (11 + u) s).1 (11 + u)) 4 = slX s v := rN_congr (fun i hi => by
    show (zL s (11 + u) (va_cpy (s.1 (11 + v)) (s.1 (11 + u)) 0 0 4)).1 (11 + u) i = _
    rw [zL_s, pk_cpy_in (Nat.zero_le _) (by omega), show 0 + (i - 0) = i by omega])
  have a3 : (fX8_move (11 + v) (11 + u) s).2 = s.2 := rfl
  generalize fX8_move (11 + v) (11 + u) s = s' at a1 a2 a3 ⊢
  obtain ⟨f1, f2, f3⟩ := cM_from 4 v t
  generalize fX10_fromSlot 4 v t = t1 at f1 f2 f3 ⊢
  obtain ⟨g1, g2, g3, g4⟩ := cM_to u 4 t1
  generalize fX10_toSlot u 4 t1 = t2 at g1 g2 g3 g4 ⊢
  have r0 : t1.1 0 = t.1 0 := funext fun j => f1 0 j (by omega)
  refine h.put (u := u) (fun id _ q => a1 id q) hu ⟨fun j q => by rw [g1 2 j (by omega), f1 2 j (by omega)], fun j q q2 => by rw [g1 4 j (by omega), f1 4 j (by omega)], funext fun j => by rw [g1 5 j (by omega), f1 5 j (by omega)], funext fun j => by rw [g1 6 j (by omega), f1 6 j (by omega)]⟩ (fun w q => by rw [g3 w q, slM_row r0]) ?_ (by rw [a3]) (fun _ _ => by rw [a3]) (by rw [g4, f3]) (fun _ _ => by rw [g4, f3]) (by rw [g4, f3]; exact h.h5)
  rw [a2, g2, f2]
  exact h.2.2.2.1 v hv
theorem c_copy {T : Nat} {s t : zSt} (v u : Int32) (h : GI T s t) : zfst (fX9_copy v u s) = zfst (fX10_copy v u t) ∧ GI T (zsnd (fX9_copy v u s)) (zsnd (fX10_copy v u t)) := by
  unfold fX9_copy fX10_copy
  rw [is_sl v s t]
  cases e : vX10_isSlot v t with
  | false => rw [cond_false, cond_false]; exact ⟨rfl, h⟩
  | true =>
    rw [cond_true, cond_true]
    unfold fX9_copy_a4 fX10_copy_a4
    rw [is_sl u s t]
    cases e2 : vX10_isSlot u t with
    | false => rw [cond_false, cond_false]; exact ⟨rfl, h⟩
    | true =>
      rw [cond_true, cond_true]
      unfold fX9_copy_a2 fX10_copy_a2
      dsimp only
      simp only [zfst_mk, zsnd_mk]
      exact ⟨trivial, put_c h (msl_of e).2 (msl_of e2).2⟩
theorem c_clear {T : Nat} {s t : zSt} (h : GI T s t) : zfst (fX9_clear s) = zfst (fX10_clear t) ∧ GI 0 (zsnd (fX9_clear s)) (zsnd (fX10_clear t)) := by
  unfold fX9_clear fX10_clear
  dsimp only
  simp only [zfst_mk, zsnd_mk]
  obtain ⟨h1, h2, h3, h4, h6, h7, h8, h9, ⟨h10, h11, h12, h13⟩, h14⟩ := h
  exact ⟨h7.trans h8.symm, h1, h2, h3, h4, Nat.zero_le _, zI_s _ _ _, zI_s _ _ _, fun i hi => absurd hi (Nat.not_lt_zero i), ⟨by rw [zI_n _ _ (by omega), zI_n _ _ (by omega)]; exact h10, by rw [zI_n _ _ (by omega), zI_n _ _ (by omega)]; exact h11, by rw [zI_n _ _ (by omega), zI_n _ _ (by omega)]; exact h12, by rw [zI_n _ _ (by omega), zI_n _ _ (by omega)]; exact h13⟩, by rw [zI_n _ _ (by omega)]; exact h14⟩
