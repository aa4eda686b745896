/-! secrets, keys, signatures on both sides -/
theorem bm_X {s : zSt} {ks out : Nat} (hX : CX s) (hks : ks ≠ 40 ∧ ¬ (75 ≤ ks ∧ ks ≤ 81) ∧ ¬ (84 ≤ ks ∧ ks ≤ 163) ∧ ¬ (196 ≤ ks ∧ ks ≤ 199)) (ho : 1 < out ∧ out ≠ 40 ∧ out ≠ 41 ∧ out ≠ 75 ∧ out ≠ 76 ∧ out ≠ 77) :
    (rN ((fX0_write 196 out (fX0_multiply ks 67 196 s)).1 out) 4 : Int) = pby (sm bP (rN (s.1 ks) 4)) ∧ (∀ id, id ≠ 40 → id ≠ 41 → ¬ (45 ≤ id ∧ id ≤ 60) → ¬ (75 ≤ id ∧ id ≤ 81) → ¬ (84 ≤ id ∧ id ≤ 163) → ¬ (196 ≤ id ∧ id ≤ 199) → id ≠ out → (fX0_write 196 out (fX0_multiply ks 67 196 s)).1 id = s.1 id) ∧ zk2 (fX0_write 196 out (fX0_multiply ks 67 196 s)) = zk2 s := by
  obtain ⟨m1, m2⟩ := cX_mulp (S := 196) (ws := ks) hX.2.2 hX.1.2.2.2.2.1 (by omega) (by omega) ⟨hks.1, hks.2.1, hks.2.2.1, by omega⟩
  have k1 := k2_fX0_multiply ks 67 196 s
  have p1 : rN ((fX0_multiply ks 67 196 s).1 1) 4 = pInv := by rw [m1 1 (by omega) (by omega) (by omega) (by omega)]; exact hX.1.2.2.2.2.2.2.1
  generalize fX0_multiply ks 67 196 s = t at m1 m2 k1 p1 ⊢
  obtain ⟨w1, w2⟩ := cX_write (ws := out) m2 p1 (by omega) ⟨ho.1, ho.2.1, ho.2.2.1, by omega, by omega, by omega⟩
  exact ⟨w2, fun id q1 q2 q3 q4 q5 q6 q7 => by rw [w1 id q1 q2 q3 (by omega) q7, m1 id q1 q4 q5 (by omega)], (k2_fX0_write 196 out t).trans k1⟩
theorem bm_M {t : zSt} {e p : Nat} (hM : CM t) (hp : 4 ≤ p ∧ p + 4 ≤ 64) (hp2 : p + 4 ≤ 24 ∨ 28 ≤ p) :
    (w4 (fX10_bytes p 18 (fX10_many 18 5 e t)) p : Int) = pby (sm bP (w4 t e)) ∧ (∀ id j, id ≠ 3 → ¬ (id = 2 ∧ 288 ≤ j ∧ j < 352) → ¬ (id = 2 ∧ 416 ≤ j ∧ j < 576) → ¬ (id = 2 ∧ 656 ≤ j ∧ j < 736) → ¬ (id = 4 ∧ j < 4) → ¬ (id = 4 ∧ 24 ≤ j ∧ j < 28) → ¬ (id = 4 ∧ p ≤ j ∧ j < p + 4) → (fX10_bytes p 18 (fX10_many 18 5 e t)).1 id j = t.1 id j) ∧ zk2 (fX10_bytes p 18 (fX10_many 18 5 e t)) = zk2 t := by
  obtain ⟨m1, m2⟩ := cM_many (r := 18) (e := e) hM.2 hM.1.2.2.2.1 (by omega) (by omega) (by omega)
  have k1 := k2_fX10_many 18 5 e t
  generalize fX10_many 18 5 e t = u at m1 m2 k1 ⊢
  obtain ⟨b1, b2⟩ := cM_bytes (p := p) m2 (by omega) hp hp2
  exact ⟨b2, fun id j q1 q2 q3 q4 q5 q6 q7 => by rw [b1 id j q1 (by omega) q4 q5 q6 q7, m1 id j q1 (by omega) (by omega)], (k2_fX10_bytes p 18 u).trans k1⟩
theorem bg_X (s : zSt) : fmX s (fX5_begin s) := ⟨rfl, fun _ _ => rfl, fun k q => zI_n _ _ q⟩
theorem MR_0 (s t : zSt) : MR 0 s t := fun i hi => absurd hi (Nat.not_lt_zero i)
theorem w4_row {s t : zSt} {ws p : Nat} (h : rN (s.1 ws) 4 = w4 t p) : ∀ j, j < 4 → s.1 ws j = t.1 4 (p + j) := rN_inj h
theorem TR_keep {n : Nat} {s t s' t' : zSt} (h : TR n s t) (hs : s'.2.1 36 = s.2.1 36) (ht : t'.2.1 1 = t.2.1 1) : TR n s' t' := fun i hi => by rw [hs, ht]; exact h i hi
/-- one row and THE TEXT -/
theorem ms_1 {s t : zSt} {ws p T : Nat} (hw : rN (s.1 ws) 4 = w4 t p) (hT : TR T s t) : MR (32 + T) (fX5_takeText 32 T (fX5_takeRow ws 0 (fX5_begin s))) (fX10_tellText 32 T (fX10_tellWords p 0 t)) ∧ fmX s (fX5_takeText 32 T (fX5_takeRow ws 0 (fX5_begin s))) ∧ fmM t (fX10_tellText 32 T (fX10_tellWords p 0 t)) := by
  have b := bg_X s
  generalize fX5_begin s = s0 at b ⊢
  obtain ⟨a1, a2, a3⟩ := MR_row (ws := ws) (p := p) (MR_0 s0 t) (fun j hj => by rw [b.1]; exact w4_row hw j hj)
  generalize fX5_takeRow ws 0 s0 = s1 at a1 a2 ⊢
  generalize fX10_tellWords p 0 t = t1 at a1 a3 ⊢
  obtain ⟨c1, c2, c3⟩ := MR_text (T := T) a1 (TR_keep hT (by rw [a2.2.1 36 (by omega), b.2.1 36 (by omega)]) (a3.2.1 1 (by omega)))
  exact ⟨c1, (b.trans a2).trans c2, a3.trans c3⟩
/-- two rows and THE TEXT -/
theorem ms_2 {s t : zSt} {w1 w2 p1 p2 T : Nat} (h1 : rN (s.1 w1) 4 = w4 t p1) (h2 : rN (s.1 w2) 4 = w4 t p2) (hT : TR T s t) : MR (64 + T) (fX5_takeText 64 T (fX5_takeRow w2 32 (fX5_takeRow w1 0 (fX5_begin s)))) (fX10_tellText 64 T (fX10_tellWords p2 32 (fX10_tellWords p1 0 t))) ∧ fmX s (fX5_takeText 64 T (fX5_takeRow w2 32 (fX5_takeRow w1 0 (fX5_begin s)))) ∧ fmM t (fX10_tellText 64 T (fX10_tellWords p2 32 (fX10_tellWords p1 0 t))) := by
  have b := bg_X s
  generalize fX5_begin s = s0 at b ⊢
  obtain ⟨a1, a2, a3⟩ := MR_row (ws := w1) (p := p1) (MR_0 s0 t) (fun j hj => by rw [b.1]; exact w4_row h1 j hj)
  generalize fX5_takeRow w1 0 s0 = s1 at a1 a2 ⊢
  generalize fX10_tellWords p1 0 t = t1 at a1 a3 ⊢
  obtain ⟨d1, d2, d3⟩ := MR_row (ws := w2) (p := p2) (L := 32) (s := s1) (t := t1) a1 (fun j hj => by rw [a2.1, b.1, a3.1]; exact w4_row h2 j hj)
  generalize fX5_takeRow w2 32 s1 = s2 at d1 d2 ⊢
  generalize fX10_tellWords p2 32 t1 = t2 at d1 d3 ⊢
  obtain ⟨c1, c2, c3⟩ := MR_text (L := 64) (T := T) (s := s2) (t := t2) d1 (TR_keep hT (by rw [d2.2.1 36 (by omega), a2.2.1 36 (by omega), b.2.1 36 (by omega)]) (by rw [d3.2.1 1 (by omega), a3.2.1 1 (by omega)]))
  exact ⟨c1, ((b.trans a2).trans d2).trans c2, (a3.trans d3).trans c3⟩
/-- what whole methods of the signer leave alone -/
def KX (s t : zSt) : Prop := (∀ id, (id < 40 ∨ (66 < id ∧ id < 75)) → t.1 id = s.1 id) ∧ (∀ id, id ≠ 176 → t.2.1 id = s.2.1 id) ∧ ∀ k, k ≠ 5 → t.2.2 k = s.2.2 k
def KM (s t : zSt) : Prop := keepM s t ∧ t.1 0 = s.1 0 ∧ (∀ id, id ≠ 10 → id ≠ 14 → t.2.1 id = s.2.1 id) ∧ ∀ k, k ≠ 5 → t.2.2 k = s.2.2 k
theorem KX.keep {s t : zSt} (h : KX s t) : keepX s t := fun id q => h.1 id (by omega)
theorem unf_X {ws : Nat} {s s2 s3 : zSt} (e2 : s2 = fX5_finish 180 32 (fX5_takeRow ws 0 (fX5_begin s))) (e3 : s3 = zL s2 181 (va_cpy (s2.1 180) (s2.1 181) 0 0 4)) : fX6_unfold ws s = fX8_clamp 181 (zL s3 182 (va_cpy (s3.1 180) (s3.1 182) 4 0 4)) := by
  unfold fX6_unfold
  dsimp only
  rw [← e2, ← e3]
theorem unf_M {v : Nat} {t t6 : zSt} (e : t6 = fX10_digestWords 16 32 (fX10_clamp 20 (fX10_digestWords 20 0 (fX10_digests 32 (fX10_tellWords 4 0 (fX10_fromSlot 4 v t)))))) : fX10_open_ v t = fX10_bytes 28 18 (fX10_many 18 5 20 (fX10_words 48 (t6.1 4 16) (t6.1 4 17) (t6.1 4 18) (t6.1 4 19) t6)) := by
  unfold fX10_open_
  dsimp only
  rw [← e]
theorem unf_rel {s t : zSt} {ws v : Nat} (hw : rN (s.1 ws) 4 = slM t v) (hX : CX s) (hM : CM t) (hk : HK s t) :
    ∃ K N : Nat, rN ((fX6_unfold ws s).1 181) 4 = K ∧ rN ((fX6_unfold ws s).1 182) 4 = N ∧ (∀ id, id ≠ 177 → id ≠ 178 → id ≠ 180 → id ≠ 181 → id ≠ 182 → (fX6_unfold ws s).1 id = s.1 id) ∧ (∀ id, id ≠ 176 → (fX6_unfold ws s).2.1 id = s.2.1 id) ∧ (∀ k, k ≠ 5 → (fX6_unfold ws s).2.2 k = s.2.2 k)
      ∧ w4 (fX10_open_ v t) 20 = K ∧ w4 (fX10_open_ v t) 48 = N ∧ (w4 (fX10_open_ v t) 28 : Int) = pby (sm bP K) ∧ KM t (fX10_open_ v t) ∧ (fX10_open_ v t).2.2 5 = nI 0 := by
  have hX1 := fun s2 s3 => @unf_X ws s s2 s3
  have hM1 := fun t6 => @unf_M v t t6
  suffices Z : ∀ s2 s3 t6, s2 = fX5_finish 180 32 (fX5_takeRow ws 0 (fX5_begin s)) → s3 = zL s2 181 (va_cpy (s2.1 180) (s2.1 181) 0 0 4) → t6 = fX10_digestWords 16 32 (fX10_clamp 20 (fX10_digestWords 20 0 (fX10_digests 32 (fX10_tellWords 4 0 (fX10_fromSlot 4 v t))))) → ∃ K N : Nat, rN ((fX8_clamp 181 (zL s3 182 (va_cpy (s3.1 180) (s3.1 182) 4 0 4))).1 181) 4 = K ∧ rN ((fX8_clamp 181 (zL s3 182 (va_cpy (s3.1 180) (s3.1 182) 4 0 4))).1 182) 4 = N ∧ (∀ id, id ≠ 177 → id ≠ 178 → id ≠ 180 → id ≠ 181 → id ≠ 182 → (fX8_clamp 181 (zL s3 182 (va_cpy (s3.1 180) (s3.1 182) 4 0 4))).1 id = s.1 id) ∧ (∀ id, id ≠ 176 → (fX8_clamp 181 (zL s3 182 (va_cpy (s3.1 180) (s3.1 182) 4 0 4))).2.1 id = s.2.1 id) ∧ (∀ k, k ≠ 5 → (fX8_clamp 181 (zL s3 182 (va_cpy (s3.1 180) (s3.1 182) 4 0 4))).2.2 k = s.2.2 k)
      ∧ w4 (fX10_bytes 28 18 (fX10_many 18 5 20 (fX10_words 48 (t6.1 4 16) (t6.1 4 17) (t6.1 4 18) (t6.1 4 19) t6))) 20 = K ∧ w4 (fX10_bytes 28 18 (fX10_many 18 5 20 (fX10_words 48 (t6.1 4 16) (t6.1 4 17) (t6.1 4 18) (t6.1 4 19) t6))) 48 = N ∧ (w4 (fX10_bytes 28 18 (fX10_many 18 5 20 (fX10_words 48 (t6.1 4 16) (t6.1 4 17) (t6.1 4 18) (t6.1 4 19) t6))) 28 : Int) = pby (sm bP K) ∧ KM t (fX10_bytes 28 18 (fX10_many 18 5 20 (fX10_words 48 (t6.1 4 16) (t6.1 4 17) (t6.1 4 18) (t6.1 4 19) t6))) ∧ (fX10_bytes 28 18 (fX10_many 18 5 20 (fX10_words 48 (t6.1 4 16) (t6.1 4 17) (t6.1 4 18) (t6.1 4 19) t6))).2.2 5 = nI 0 by
    have z := Z _ _ _ rfl rfl rfl
    rw [← hX1 _ _ rfl rfl, ← hM1 _ rfl] at z
    exact z
  clear hX1 hM1
  intro s2' s3' t6' es2 es3 et6
  obtain ⟨fs1, fs2, fs3⟩ := cM_from 4 v t
  generalize fX10_fromSlot 4 v t = t0 at fs1 fs2 fs3 et6
  have b := bg_X s
  generalize fX5_begin s = s0 at b es2
  obtain ⟨a1, a2, a3⟩ := MR_row (ws := ws) (p := 4) (MR_0 s0 t0) (fun j hj => by rw [b.1]; exact w4_row (by rw [fs2]; exact hw) j hj)
  generalize fX5_takeRow ws 0 s0 = s1 at a1 a2 es2
  generalize fX10_tellWords 4 0 t0 = t1 at a1 a3 et6
  have r0 : ∀ id j, ¬ (id = 4 ∧ 4 ≤ j ∧ j < 8) → t1.1 id j = t.1 id j := fun id j q => by rw [a3.1]; exact fs1 id j q
  have hs1 : s1.1 = s.1 := by rw [a2.1, b.1]
  obtain ⟨W, h1, h2, h3, h4, h5, h6, h7, h8, h9⟩ := sha_rel (L := 32) (out := 180) (s := s1) (t := t1) a1 (by omega) (fun i hi => by rw [hs1, r0 6 i (by omega)]; exact hk.1 i hi) (fun k hk' => by rw [hs1, r0 5 k (by omega)]; exact hk.2 k hk') (by omega)
  have hW : ∀ k (x : zSt), vX5_turned (W k) x = vX5_turned (W k) s := fun _ _ => rfl
  generalize fX5_finish 180 32 s1 = s2 at h1 h3 h4 h5 es2
  generalize fX10_digests 32 t1 = t2 at h2 h6 h7 h8 h9 et6
  subst es2
  have c1 : ∀ i, i < 4 → (zL s2' 181 (va_cpy (s2'.1 180) (s2'.1 181) 0 0 4)).1 181 i = vX5_turned (W i) s := fun i hi => by
    rw [zL_s, pk_cpy_in (Nat.zero_le _) (by omega), show 0 + (i - 0) = i by omega, h1 i (by omega)]
    rfl
  have c2 : ∀ id, id ≠ 181 → (zL s2' 181 (va_cpy (s2'.1 180) (s2'.1 181) 0 0 4)).1 id = s2'.1 id := fun id q => zL_n _ _ q
  have c3 : (zL s2' 181 (va_cpy (s2'.1 180) (s2'.1 181) 0 0 4)).2 = s2'.2 := rfl
  rw [← es3] at c1 c2 c3
  clear es3
  generalize s3' = s3 at c1 c2 c3 ⊢
  have d1 : ∀ i, i < 4 → (zL s3 182 (va_cpy (s3.1 180) (s3.1 182) 4 0 4)).1 182 i = vX5_turned (W (4 + i)) s := fun i hi => by
    rw [zL_s, pk_cpy_in (Nat.zero_le _) (by omega), show 4 + (i - 0) = 4 + i by omega, c2 180 (by omega), h1 (4 + i) (by omega)]
    rfl
  have d2 : ∀ id, id ≠ 182 → (zL s3 182 (va_cpy (s3.1 180) (s3.1 182) 4 0 4)).1 id = s3.1 id := fun id q => zL_n _ _ q
  have d3 : (zL s3 182 (va_cpy (s3.1 180) (s3.1 182) 4 0 4)).2 = s3.2 := rfl
  generalize zL s3 182 (va_cpy (s3.1 180) (s3.1 182) 4 0 4) = s4 at d1 d2 d3 ⊢
  obtain ⟨e1, e2⟩ := cX_clamp 181 s4
  have e3 := k2_fX8_clamp 181 s4
  generalize fX8_clamp 181 s4 = s5 at e1 e2 e3 ⊢
  have f181 : rN (s4.1 181) 4 = rN (fun i => vX5_turned (W i) s) 4 := rN_congr (fun i hi => by rw [d2 181 (by omega)]; exact c1 i hi)
  rw [f181] at e2
  have f182 : rN (s5.1 182) 4 = rN (fun i => vX5_turned (W (4 + i)) s) 4 := rN_congr (fun i hi => by rw [e1 182 (by omega)]; exact d1 i hi)
  obtain ⟨g1, g2, g3⟩ := dgw (p := 20) (q := 0) h2 (by omega)
  rw [show 8 * 0 = 0 from rfl] at g1 g2 g3
  generalize fX10_digestWords 20 0 t2 = t3 at g1 g2 g3 et6
  have w20 : w4 t3 20 = rN (fun i => vX5_turned (W i) s) 4 := rN_congr (fun i hi => by
    show t3.1 4 (20 + i) = _
    rw [g3 i hi, Nat.zero_add]
    rfl)
  obtain ⟨m1, m2⟩ := cM_clamp 20 t3
  have m3 := k2_fX10_clamp 20 t3
  rw [w20] at m2
  generalize fX10_clamp 20 t3 = t4 at m1 m2 m3 et6
  have D4 : DG W t4 := fun k hk' => by rw [z2_B m3 14, g2]; exact h2 k hk'
  obtain ⟨n1, n2, n3⟩ := dgw (p := 16) (q := 4) D4 (by omega)
  rw [show 8 * 4 = 32 from rfl] at n1 n2 n3
  rw [← et6] at n1 n2 n3
  clear et6
  generalize t6' = t5 at n1 n2 n3 ⊢
  have w16 : w4 t5 16 = rN (fun i => vX5_turned (W (4 + i)) s) 4 := rN_congr (fun i hi => by
    show t5.1 4 (16 + i) = _
    rw [n3 i hi]
    rfl)
  obtain ⟨o1, -⟩ := cM_words (s := t5) 48 (t5.1 4 16) (t5.1 4 17) (t5.1 4 18) (t5.1 4 19)
  have o2 := cM_words_v (s := t5) 48 (t5.1 4 16) (t5.1 4 17) (t5.1 4 18) (t5.1 4 19)
  have o3 := k2_fX10_words 48 (t5.1 4 16) (t5.1 4 17) (t5.1 4 18) (t5.1 4 19) t5
  have o4 : w4 t5 16 = tN (t5.1 4 16) + tN (t5.1 4 17) * 18446744073709551616 + tN (t5.1 4 18) * 340282366920938463463374607431768211456 + tN (t5.1 4 19) * 6277101735386680763835789423207666416102355444464034512896 := by
    unfold w4
    rw [rN_4]
  rw [← o4, w16] at o2
  generalize fX10_words 48 (t5.1 4 16) (t5.1 4 17) (t5.1 4 18) (t5.1 4 19) t5 = t6 at o1 o2 o3 ⊢
  have fr6 : ∀ id j, id ≠ 11 → id ≠ 12 → id ≠ 13 → ¬ (id = 4 ∧ 4 ≤ j ∧ j < 8) → ¬ (id = 4 ∧ 16 ≤ j ∧ j < 24) → ¬ (id = 4 ∧ 48 ≤ j ∧ j < 52) → t6.1 id j = t.1 id j := fun id j q1 q2 q3 q4 q5 q6 => by
    rw [o1 id j (by omega), n1 id j (by omega), m1 id j (by omega), g1 id j (by omega), h6 id q1 q2 q3, r0 id j (by omega)]
  have k6 : keepM t t6 := ⟨fun j q => fr6 2 j (by omega) (by omega) (by omega) (by omega) (by omega) (by omega), fun j q q2 => fr6 4 j (by omega) (by omega) (by omega) (by omega) (by omega) (by omega), funext fun j => fr6 5 j (by omega) (by omega) (by omega) (by omega) (by omega) (by omega), funext fun j => fr6 6 j (by omega) (by omega) (by omega) (by omega) (by omega) (by omega)⟩
  have K6 : w4 t6 20 = clv (rN (fun i => vX5_turned (W i) s) 4) := by
    rw [w4_keep (t := t6) (s := t4) (fun j hj => by rw [o1 4 (20 + j) (by omega), n1 4 (20 + j) (by omega)])]
    exact m2
  have z6 : t6.2 = t2.2 := by
    have x1 : t6.2 = t5.2 := o3
    have x2 : t4.2 = t3.2 := m3
    rw [x1, n2, x2, g2]
  obtain ⟨b1, b2, b3⟩ := bm_M (e := 20) (p := 28) (CM_keep hM k6) (by omega) (by omega)
  rw [K6] at b1
  generalize fX10_bytes 28 18 (fX10_many 18 5 20 t6) = t7 at b1 b2 b3 ⊢
  refine ⟨clv (rN (fun i => vX5_turned (W i) s) 4), rN (fun i => vX5_turned (W (4 + i)) s) 4, e2, f182, fun id q1 q2 q3 q4 q5 => ?_, fun id q => ?_, fun k q => ?_, ?_, ?_, b1, ⟨?_, ?_, fun id q1 q2 => ?_, fun k q => ?_⟩, ?_⟩
  · rw [e1 id q4, d2 id q5, c2 id q4, h3 id q1 q2 q3, hs1]
  · rw [z2_B e3 id, d3, c3, h4 id q, a2.2.1 id q, b.2.1 id q]
  · rw [z2_I e3 k, d3, c3, h5 k q, a2.2.2 k q, b.2.2 k q]
  · rw [w4_keep (t := t7) (s := t6) (fun j hj => b2 4 (20 + j) (by omega) (by omega) (by omega) (by omega) (by omega) (by omega) (by omega))]
    exact K6
  · rw [w4_keep (t := t7) (s := t6) (fun j hj => b2 4 (48 + j) (by omega) (by omega) (by omega) (by omega) (by omega) (by omega) (by omega))]
    exact o2
  · exact k6.trans ⟨fun j q => b2 2 j (by omega) (by omega) (by omega) (by omega) (by omega) (by omega) (by omega), fun j q q2 => b2 4 j (by omega) (by omega) (by omega) (by omega) (by omega) (by omega) (by omega), funext fun j => b2 5 j (by omega) (by omega) (by omega) (by omega) (by omega) (by omega) (by omega), funext fun j => b2 6 j (by omega) (by omega) (by omega) (by omega) (by omega) (by omega) (by omega)⟩
  · exact funext fun j => by rw [b2 0 j (by omega) (by omega) (by omega) (by omega) (by omega) (by omega) (by omega), fr6 0 j (by omega) (by omega) (by omega) (by omega) (by omega) (by omega)]
  · rw [z2_B b3 id, z6, h7 id q1 q2, a3.2.1 id q1, fs3]
  · rw [z2_I b3 k, z6, h8 k q, a3.2.2 k q, fs3]
  · rw [z2_I b3 5, z6, h9]
theorem key_rel {s t : zSt} {ws v out : Nat} (hw : rN (s.1 ws) 4 = slM t v) (hX : CX s) (hM : CM t) (hk : HK s t) (ho : 10 < out ∧ out < 36) :
    rN ((fX6_makeKey ws out s).1 out) 4 = w4 (fX10_open_ v t) 28 ∧ (∀ id, (id < 40 ∨ (66 < id ∧ id < 75)) → id ≠ out → (fX6_makeKey ws out s).1 id = s.1 id) ∧ (∀ id, id ≠ 176 → (fX6_makeKey ws out s).2.1 id = s.2.1 id) ∧ (∀ k, k ≠ 5 → (fX6_makeKey ws out s).2.2 k = s.2.2 k) ∧ KM t (fX10_open_ v t) ∧ (fX10_open_ v t).2.2 5 = nI 0 := by
  have eF : fX6_makeKey ws out s = fX0_write 196 out (fX0_multiply 181 67 196 (fX6_unfold ws s)) := rfl
  rw [eF]
  obtain ⟨K, N, h1, h2, h3, h4, h5, h6, h7, h8, h9, h10⟩ := unf_rel hw hX hM hk
  generalize fX6_unfold ws s = u at h1 h2 h3 h4 h5 ⊢
  generalize fX10_open_ v t = w at h6 h7 h8 h9 h10 ⊢
  obtain ⟨b1, b2, b3⟩ := bm_X (ks := 181) (out := out) (CX_keep hX (fun id q => h3 id (by omega) (by omega) (by omega) (by omega) (by omega))) (by omega) (by omega)
  rw [h1] at b1
  generalize fX0_write 196 out (fX0_multiply 181 67 196 u) = x at b1 b2 b3 ⊢
  refine ⟨by omega, fun id q1 q2 => ?_, fun id q => by rw [z2_B b3 id, h4 id q], fun k q => by rw [z2_I b3 k, h5 k q], h9, h10⟩
  rw [b2 id (by omega) (by omega) (by omega) (by omega) (by omega) (by omega) q2, h3 id (by omega) (by omega) (by omega) (by omega) (by omega)]
