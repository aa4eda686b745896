/-! SHA-512: the blocks, the digest -/
/-- a block's words: the same 80 on both sides -/
theorem sch_rel {n b : Nat} {s t : zSt} (h : MR n s t) (hb : 128 * b + 128 ≤ n) : ∀ u, u = ziter fX10_block_63 16 64 (ziter (fX10_block_2 (128 * b)) 0 16 t) → (∀ j, j < 80 → (fX5_fillSchedule (128 * b) s).1 177 j = u.1 11 j) ∧ ((∀ id, id ≠ 177 → (fX5_fillSchedule (128 * b) s).1 id = s.1 id) ∧ (fX5_fillSchedule (128 * b) s).2 = s.2) ∧ (∀ id, id ≠ 11 → u.1 id = t.1 id) ∧ u.2 = t.2 := by
  intro u hu
  have eF : fX5_fillSchedule (128 * b) s = ziter fX5_fillSchedule_67 16 64 (ziter (fX5_fillSchedule_2 (128 * b)) 0 16 s) := rfl
  rw [hu, eF]
  have H := ziter_2 (fX5_fillSchedule_2 (128 * b)) (fX10_block_2 (128 * b)) (fun i σ τ => (∀ j, j < i → σ.1 177 j = τ.1 11 j) ∧ ((∀ id, id ≠ 177 → σ.1 id = s.1 id) ∧ σ.2 = s.2) ∧ (∀ id, id ≠ 11 → τ.1 id = t.1 id) ∧ τ.2 = t.2) 16 ?_ 16 0 s t (by omega) ⟨fun j hj => absurd hj (Nat.not_lt_zero j), ⟨fun _ _ => rfl, rfl⟩, fun _ _ => rfl, rfl⟩
  · generalize ziter (fX5_fillSchedule_2 (128 * b)) 0 16 s = s1 at H ⊢
    generalize ziter (fX10_block_2 (128 * b)) 0 16 t = t1 at H ⊢
    refine ziter_2 fX5_fillSchedule_67 fX10_block_63 (fun i σ τ => 16 ≤ i ∧ (∀ j, j < i → σ.1 177 j = τ.1 11 j) ∧ ((∀ id, id ≠ 177 → σ.1 id = s.1 id) ∧ σ.2 = s.2) ∧ (∀ id, id ≠ 11 → τ.1 id = t.1 id) ∧ τ.2 = t.2) 80 ?_ 64 16 s1 t1 (by omega) ⟨Nat.le_refl _, H⟩ |>.2
    intro i σ τ hi ⟨h0, h1, ⟨h2, h2'⟩, h3, h4⟩
    have e1 := h1 (i - 15) (by omega)
    have e2 := h1 (i - 2) (by omega)
    have e3 := h1 (i - 16) (by omega)
    have e4 := h1 (i - 7) (by omega)
    refine ⟨by omega, fun j hj => ?_, ⟨fun id q => ?_, ?_⟩, fun id q => ?_, ?_⟩
    · unfold fX5_fillSchedule_67 fX10_block_63
      dsimp only
      rw [zW_at, zW_at, e1, e2, e3, e4]
      by_cases q : j = i
      · rw [q, pk_uLs, pk_uLs]
        rfl
      · rw [pk_uLn q, pk_uLn q]
        exact h1 j (by omega)
    · unfold fX5_fillSchedule_67
      dsimp only
      rw [zW_ne _ _ _ q]
      exact h2 id q
    · exact h2'
    · unfold fX10_block_63
      dsimp only
      rw [zW_ne _ _ _ q]
      exact h3 id q
    · exact h4
  intro i σ τ hi ⟨h1, ⟨h2, h2'⟩, h3, h4⟩
  have ew : ziter (fX5_fillSchedule_13 (128 * b) i σ) 0 8 0 = ziter (fX10_block_13 (128 * b) i τ) 0 8 0 := by
    refine ziter_2 (fX5_fillSchedule_13 (128 * b) i σ) (fX10_block_13 (128 * b) i τ) (fun _ x y => x = y) 8 ?_ 8 0 0 0 (by omega) rfl
    intro k x y hk e
    have eb : τ.2.1 10 ((128 * b + 8 * i) + k) = nI (bt8 (σ.2.1 176 ((128 * b + 8 * i) + k))) := by
      rw [h4, h2']
      exact h _ (by omega)
    show zsl x 8 ||| (nI (bt8 (σ.2.1 176 ((128 * b + 8 * i) + k)))).toInt64 = zsl y 8 ||| (τ.2.1 10 ((128 * b + 8 * i) + k)).toInt64
    rw [eb, e]
  have g1 : fX5_fillSchedule_2 (128 * b) i σ = zW σ 177 i (ziter (fX5_fillSchedule_13 (128 * b) i σ) 0 8 0) := rfl
  have g2 : fX10_block_2 (128 * b) i τ = zW τ 11 i (ziter (fX10_block_13 (128 * b) i τ) 0 8 0) := rfl
  rw [g1, g2, ← ew]
  generalize ziter (fX5_fillSchedule_13 (128 * b) i σ) 0 8 0 = w
  refine ⟨fun j hj => ?_, ⟨fun id q => ?_, h2'⟩, fun id q => ?_, h4⟩
  · rw [zW_at, zW_at]
    by_cases q : j = i
    · rw [q, pk_uLs, pk_uLs]
    · rw [pk_uLn q, pk_uLn q]
      exact h1 j (by omega)
  · rw [zW_ne _ _ _ q]
    exact h2 id q
  · rw [zW_ne _ _ _ q]
    exact h3 id q
abbrev T8 : Type := Int64 × Int64 × Int64 × Int64 × Int64 × Int64 × Int64 × Int64
def v8 (t : zSt) (x : T8) : Prop := t.1 13 0 = x.1 ∧ t.1 13 1 = x.2.1 ∧ t.1 13 2 = x.2.2.1 ∧ t.1 13 3 = x.2.2.2.1 ∧ t.1 13 4 = x.2.2.2.2.1 ∧ t.1 13 5 = x.2.2.2.2.2.1 ∧ t.1 13 6 = x.2.2.2.2.2.2.1 ∧ t.1 13 7 = x.2.2.2.2.2.2.2
theorem shf (t : zSt) : (∀ id, id ≠ 13 → (zdown fX10_block_368 7 t).1 id = t.1 id) ∧ (zdown fX10_block_368 7 t).2 = t.2 ∧ ∀ k, 1 ≤ k → k < 8 → (zdown fX10_block_368 7 t).1 13 k = t.1 13 (k - 1) := by
  have H := zdown_I fX10_block_368 (fun j σ => j ≤ 7 ∧ (∀ id, id ≠ 13 → σ.1 id = t.1 id) ∧ σ.2 = t.2 ∧ (∀ k, k ≤ j → σ.1 13 k = t.1 13 k) ∧ ∀ k, j < k → k < 8 → σ.1 13 k = t.1 13 (k - 1)) ?_ 7 t ⟨Nat.le_refl _, fun _ _ => rfl, rfl, fun _ _ => rfl, fun k h1 h2 => by omega⟩
  · exact ⟨H.2.1, H.2.2.1, fun k h1 h2 => H.2.2.2.2 k (by omega) h2⟩
  intro j σ ⟨h0, h1, h2, h3, h4⟩
  have e : fX10_block_368 j σ = zW σ 13 (j + 1) (σ.1 13 (j + 1 - 1)) := rfl
  rw [e]
  refine ⟨by omega, fun id q => ?_, h2, fun k hk => ?_, fun k h5 h6 => ?_⟩
  · rw [zW_ne _ _ _ q]
    exact h1 id q
  · rw [zW_at, pk_uLn (by omega)]
    exact h3 k (by omega)
  · rw [zW_at]
    by_cases q : k = j + 1
    · rw [q, pk_uLs]
      exact h3 _ (by omega)
    · rw [pk_uLn q]
      exact h4 k (by omega) h6
theorem rnd_rel {s t : zSt} {x : T8} {i : Nat} (hv : v8 t x) (hK : t.1 6 i = s.1 10 i) (hS : t.1 11 i = s.1 177 i) : v8 (fX10_block_188 i t) (fX5_mix_67 s i x) ∧ (∀ id, id ≠ 13 → (fX10_block_188 i t).1 id = t.1 id) ∧ (fX10_block_188 i t).2 = t.2 := by
  obtain ⟨a, b, c, d, e, f, g, h⟩ := x
  obtain ⟨v0, v1, v2, v3, v4, v5, v6, v7⟩ := hv
  have v0 : t.1 13 0 = a := v0
  have v1 : t.1 13 1 = b := v1
  have v2 : t.1 13 2 = c := v2
  have v3 : t.1 13 3 = d := v3
  have v4 : t.1 13 4 = e := v4
  have v5 : t.1 13 5 = f := v5
  have v6 : t.1 13 6 = g := v6
  have v7 : t.1 13 7 = h := v7
  obtain ⟨s1, s2, s3⟩ := shf t
  have eF : ∀ u w1 w2, u = zdown fX10_block_368 7 t → w1 = ((((h + (((vX5_rotated e 14 s) ^^^ (vX5_rotated e 18 s)) ^^^ (vX5_rotated e 41 s))) + ((e &&& f) ^^^ ((e ^^^ (-1)) &&& g))) + (s.1 10 i)) + (s.1 177 i)) → w2 = ((((vX5_rotated a 28 s) ^^^ (vX5_rotated a 34 s)) ^^^ (vX5_rotated a 39 s)) + (((a &&& b) ^^^ (a &&& c)) ^^^ (b &&& c))) → fX10_block_188 i t = zW (zW u 13 4 (u.1 13 4 + w1)) 13 0 (w1 + w2) := by
    intro u w1 w2 e1 e2 e3
    rw [e1, e2, e3]
    unfold fX10_block_188
    dsimp only
    rw [v0, v1, v2, v4, v5, v6, v7, hK, hS]
    rfl
  have eG : ∀ w1, w1 = ((((h + (((vX5_rotated e 14 s) ^^^ (vX5_rotated e 18 s)) ^^^ (vX5_rotated e 41 s))) + ((e &&& f) ^^^ ((e ^^^ (-1)) &&& g))) + (s.1 10 i)) + (s.1 177 i)) → fX5_mix_67 s i (a, b, c, d, e, f, g, h) = (w1 + (((vX5_rotated a 28 s) ^^^ (vX5_rotated a 34 s)) ^^^ (vX5_rotated a 39 s)) + (((a &&& b) ^^^ (a &&& c)) ^^^ (b &&& c)), a, b, c, d + w1, e, f, g) := by
    intro w1 e1
    rw [e1]
    rfl
  rw [eF _ _ _ rfl rfl rfl, eG _ rfl]
  generalize ((((h + (((vX5_rotated e 14 s) ^^^ (vX5_rotated e 18 s)) ^^^ (vX5_rotated e 41 s))) + ((e &&& f) ^^^ ((e ^^^ (-1)) &&& g))) + (s.1 10 i)) + (s.1 177 i)) = w1
  generalize (((vX5_rotated a 28 s) ^^^ (vX5_rotated a 34 s)) ^^^ (vX5_rotated a 39 s)) = w2
  generalize (((a &&& b) ^^^ (a &&& c)) ^^^ (b &&& c)) = w3
  generalize zdown fX10_block_368 7 t = u at s1 s2 s3 ⊢
  refine ⟨⟨?_, ?_, ?_, ?_, ?_, ?_, ?_, ?_⟩, fun id q => ?_, s2⟩
  · show _ = w1 + w2 + w3
    rw [zW_at, pk_uLs, Int64.add_assoc]
  · show _ = a
    rw [zW_at, pk_uLn (by omega), zW_at, pk_uLn (by omega), s3 1 (by omega) (by omega)]
    exact v0
  · show _ = b
    rw [zW_at, pk_uLn (by omega), zW_at, pk_uLn (by omega), s3 2 (by omega) (by omega)]
    exact v1
  · show _ = c
    rw [zW_at, pk_uLn (by omega), zW_at, pk_uLn (by omega), s3 3 (by omega) (by omega)]
    exact v2
  · show _ = d + w1
    rw [zW_at, pk_uLn (by omega), zW_at, pk_uLs, s3 4 (by omega) (by omega)]
    show t.1 13 3 + w1 = _
    rw [v3]
  · show _ = e
    rw [zW_at, pk_uLn (by omega), zW_at, pk_uLn (by omega), s3 5 (by omega) (by omega)]
    exact v4
  · show _ = f
    rw [zW_at, pk_uLn (by omega), zW_at, pk_uLn (by omega), s3 6 (by omega) (by omega)]
    exact v5
  · show _ = g
    rw [zW_at, pk_uLn (by omega), zW_at, pk_uLn (by omega), s3 7 (by omega) (by omega)]
    exact v6
  · rw [zW_ne _ _ _ q, zW_ne _ _ _ q]
    exact s1 id q
theorem mix_out (s : zSt) (x : T8) : ∀ u, u = zW (zW (zW (zW (zW (zW (zW (zW s 178 0 (s.1 178 0 + x.1)) 178 1 (s.1 178 1 + x.2.1)) 178 2 (s.1 178 2 + x.2.2.1)) 178 3 (s.1 178 3 + x.2.2.2.1)) 178 4 (s.1 178 4 + x.2.2.2.2.1)) 178 5 (s.1 178 5 + x.2.2.2.2.2.1)) 178 6 (s.1 178 6 + x.2.2.2.2.2.2.1)) 178 7 (s.1 178 7 + x.2.2.2.2.2.2.2) → (u.1 178 0 = s.1 178 0 + x.1 ∧ u.1 178 1 = s.1 178 1 + x.2.1 ∧ u.1 178 2 = s.1 178 2 + x.2.2.1 ∧ u.1 178 3 = s.1 178 3 + x.2.2.2.1 ∧ u.1 178 4 = s.1 178 4 + x.2.2.2.2.1 ∧ u.1 178 5 = s.1 178 5 + x.2.2.2.2.2.1 ∧ u.1 178 6 = s.1 178 6 + x.2.2.2.2.2.2.1 ∧ u.1 178 7 = s.1 178 7 + x.2.2.2.2.2.2.2) ∧ (∀ id, id ≠ 178 → u.1 id = s.1 id) ∧ u.2 = s.2 := by
  intro u hu
  subst hu
  refine ⟨?_, fun id q => ?_, rfl⟩
  · simp [zW_at, vp_updL]
  · rw [zW_ne _ _ _ q, zW_ne _ _ _ q, zW_ne _ _ _ q, zW_ne _ _ _ q, zW_ne _ _ _ q, zW_ne _ _ _ q, zW_ne _ _ _ q, zW_ne _ _ _ q]
theorem mix_rel {s t : zSt} (hK : ∀ i, i < 80 → s.1 10 i = t.1 6 i) (hS : ∀ i, i < 80 → s.1 177 i = t.1 11 i) (hv : ∀ k, k < 8 → s.1 178 k = t.1 12 k) : ∀ u, u = ziter fX10_block_423 0 8 (ziter fX10_block_188 0 80 (ziter fX10_block_162 0 8 t)) → (∀ k, k < 8 → (fX5_mix s).1 178 k = u.1 12 k) ∧ ((∀ id, id ≠ 178 → (fX5_mix s).1 id = s.1 id) ∧ (fX5_mix s).2 = s.2) ∧ (∀ id, id ≠ 12 → id ≠ 13 → u.1 id = t.1 id) ∧ u.2 = t.2 := by
  intro u hu
  have f := zmap0 (F := fX10_block_162) (s0 := t) 13 8 (fun k => t.1 12 k) (fun i σ hi h => by
    show zW σ 13 i (σ.1 12 i) = _
    rw [h 12 i (by omega)])
  have f3 : (ziter fX10_block_162 0 8 t).2 = t.2 := ziter_keep (fun z : zSt => z.2) fX10_block_162 (fun _ _ => rfl) 8 0 t
  generalize ziter fX10_block_162 0 8 t = t1 at f f3 hu
  obtain ⟨f1, f2⟩ := f
  have fr : ∀ id, id ≠ 13 → t1.1 id = t.1 id := fun id h => funext fun j => f1 id j (Or.inl h)
  have H := ziter_2 fX10_block_188 (fX5_mix_67 s) (fun i (τ : zSt) (x : T8) => v8 τ x ∧ (∀ id, id ≠ 13 → τ.1 id = t.1 id) ∧ τ.2 = t.2) 80 ?_ 80 0 t1 (s.1 178 0, s.1 178 1, s.1 178 2, s.1 178 3, s.1 178 4, s.1 178 5, s.1 178 6, s.1 178 7) (by omega) ?_
  rotate_left
  · intro i τ x hi ⟨h1, h2, h3⟩
    obtain ⟨r1, r2, r3⟩ := rnd_rel (s := s) h1 (i := i) (by rw [h2 6 (by omega)]; exact (hK i hi).symm) (by rw [h2 11 (by omega)]; exact (hS i hi).symm)
    exact ⟨r1, fun id q => (r2 id q).trans (h2 id q), r3.trans h3⟩
  · refine ⟨⟨?_, ?_, ?_, ?_, ?_, ?_, ?_, ?_⟩, fr, f3⟩
    · rw [f2 0 (by omega)]; exact (hv 0 (by omega)).symm
    · rw [f2 1 (by omega)]; exact (hv 1 (by omega)).symm
    · rw [f2 2 (by omega)]; exact (hv 2 (by omega)).symm
    · rw [f2 3 (by omega)]; exact (hv 3 (by omega)).symm
    · rw [f2 4 (by omega)]; exact (hv 4 (by omega)).symm
    · rw [f2 5 (by omega)]; exact (hv 5 (by omega)).symm
    · rw [f2 6 (by omega)]; exact (hv 6 (by omega)).symm
    · rw [f2 7 (by omega)]; exact (hv 7 (by omega)).symm
  have eF : ∀ x : T8, x = ziter (fX5_mix_67 s) 0 80 (s.1 178 0, s.1 178 1, s.1 178 2, s.1 178 3, s.1 178 4, s.1 178 5, s.1 178 6, s.1 178 7) → fX5_mix s = zW (zW (zW (zW (zW (zW (zW (zW s 178 0 (s.1 178 0 + x.1)) 178 1 (s.1 178 1 + x.2.1)) 178 2 (s.1 178 2 + x.2.2.1)) 178 3 (s.1 178 3 + x.2.2.2.1)) 178 4 (s.1 178 4 + x.2.2.2.2.1)) 178 5 (s.1 178 5 + x.2.2.2.2.2.1)) 178 6 (s.1 178 6 + x.2.2.2.2.2.2.1)) 178 7 (s.1 178 7 + x.2.2.2.2.2.2.2) := by
    intro x e
    unfold fX5_mix
    dsimp only
    rw [← e]
    simp [zW_at, vp_updL]
  generalize hx : ziter (fX5_mix_67 s) 0 80 (s.1 178 0, s.1 178 1, s.1 178 2, s.1 178 3, s.1 178 4, s.1 178 5, s.1 178 6, s.1 178 7) = x at H
  generalize ziter fX10_block_188 0 80 t1 = t2 at H hu
  obtain ⟨⟨v0, v1, v2, v3, v4, v5, v6, v7⟩, h2, h3⟩ := H
  obtain ⟨⟨m0, m1, m2, m3, m4, m5, m6, m7⟩, mf1, mf2⟩ := mix_out s x _ (eF x hx.symm)
  have g := zmap0 (F := fX10_block_423) (s0 := t2) 12 8 (fun k => t2.1 12 k + t2.1 13 k) (fun i σ hi h => by
    show zW σ 12 i (σ.1 12 i + σ.1 13 i) = _
    rw [h 12 i (by omega), h 13 i (by omega)])
  have g3 : (ziter fX10_block_423 0 8 t2).2 = t2.2 := ziter_keep (fun z : zSt => z.2) fX10_block_423 (fun _ _ => rfl) 8 0 t2
  rw [← hu] at g g3
  obtain ⟨g1, g2⟩ := g
  refine ⟨fun k hk => ?_, ⟨mf1, mf2⟩, fun id q1 q2 => ?_, g3.trans h3⟩
  · rw [g2 k hk, h2 12 (by omega), ← hv k hk]
    have hc : k = 0 ∨ k = 1 ∨ k = 2 ∨ k = 3 ∨ k = 4 ∨ k = 5 ∨ k = 6 ∨ k = 7 := by omega
    rcases hc with rfl | rfl | rfl | rfl | rfl | rfl | rfl | rfl
    · rw [m0, v0]
    · rw [m1, v1]
    · rw [m2, v2]
    · rw [m3, v3]
    · rw [m4, v4]
    · rw [m5, v5]
    · rw [m6, v6]
    · rw [m7, v7]
  · rw [show u.1 id = t2.1 id from funext fun j => g1 id j (Or.inl q1), h2 id q2]
