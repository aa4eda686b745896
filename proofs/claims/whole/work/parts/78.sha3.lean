/-! SHA-512: whole digests; what comes of them -/
/-- the digest's bytes, of the words W -/
def dgb (W : Nat → Int64) (k : Nat) : Nat := ((zus (W (k / 8)) (8 * (7 - k % 8))).toInt32).toBitVec.toNat % 2 ^ 8
theorem dgb_lt (W : Nat → Int64) (k : Nat) : dgb W k < 256 := Nat.mod_lt _ (by decide)
def DG (W : Nat → Int64) (t : zSt) : Prop := ∀ k, k < 64 → t.2.1 14 k = nI (dgb W k)
theorem sha_rel {s t : zSt} {L out : Nat} (hM : MR L s t) (hL : L < 500) (hK : ∀ i, i < 80 → s.1 10 i = t.1 6 i) (hF : ∀ k, k < 8 → s.1 9 k = t.1 5 k) (ho : out ≠ 177 ∧ out ≠ 178) :
    ∃ W : Nat → Int64, (∀ k, k < 8 → (fX5_finish out L s).1 out k = vX5_turned (W k) s) ∧ DG W (fX10_digests L t) ∧ (∀ id, id ≠ 177 → id ≠ 178 → id ≠ out → (fX5_finish out L s).1 id = s.1 id) ∧ (∀ id, id ≠ 176 → (fX5_finish out L s).2.1 id = s.2.1 id) ∧ (∀ k, k ≠ 5 → (fX5_finish out L s).2.2 k = s.2.2 k)
      ∧ (∀ id, id ≠ 11 → id ≠ 12 → id ≠ 13 → (fX10_digests L t).1 id = t.1 id) ∧ (∀ id, id ≠ 10 → id ≠ 14 → (fX10_digests L t).2.1 id = t.2.1 id) ∧ (∀ k, k ≠ 5 → (fX10_digests L t).2.2 k = t.2.2 k) ∧ (fX10_digests L t).2.2 5 = nI 0 := by
  have eF : fX5_finish out L s = ziter (fX5_finish_72 out) 0 8 (ziter fX5_finish_43 0 ((L + 144) / 128) (zL (fX5_pad ((L + 144) / 128 * 128) L s) 178 (va_cpy ((fX5_pad ((L + 144) / 128 * 128) L s).1 9) ((fX5_pad ((L + 144) / 128 * 128) L s).1 178) 0 0 8))) := rfl
  have eG : fX10_digests L t = zI (ziter fX10_digests_124 0 64 (ziter fX10_digests_100 0 ((L + 144) / 128) (ziter fX10_digests_74 0 8 (pdM L t)))) 5 (nI 0) := rfl
  rw [eF, eG]
  have hp := MR_pad hM hL
  obtain ⟨px, -, -⟩ := pad_X L s hL
  obtain ⟨pm, -, -⟩ := pad_M L t hL
  generalize fX5_pad ((L + 144) / 128 * 128) L s = s1 at hp px ⊢
  generalize pdM L t = t1 at hp pm ⊢
  generalize hn : (L + 144) / 128 = n at hp ⊢
  have f := zmap0 (F := fX10_digests_74) (s0 := t1) 12 8 (fun k => t1.1 5 k) (fun i σ hi h => by
    show zW σ 12 i (σ.1 5 i) = _
    rw [h 5 i (by omega)])
  have f3 : (ziter fX10_digests_74 0 8 t1).2 = t1.2 := ziter_keep (fun z : zSt => z.2) fX10_digests_74 (fun _ _ => rfl) 8 0 t1
  generalize ziter fX10_digests_74 0 8 t1 = t2 at f f3 ⊢
  obtain ⟨f1, f2⟩ := f
  have t2r : ∀ id, id ≠ 12 → t2.1 id = t.1 id := fun id h => (funext fun j => f1 id j (Or.inl h) : t2.1 id = t1.1 id).trans (by rw [pm.1])
  have a1 : ∀ id, id ≠ 178 → (zL s1 178 (va_cpy (s1.1 9) (s1.1 178) 0 0 8)).1 id = s.1 id := fun id h => by rw [zL_n _ _ h, px.1]
  have a2 : ∀ k, k < 8 → (zL s1 178 (va_cpy (s1.1 9) (s1.1 178) 0 0 8)).1 178 k = s.1 9 k := fun k hk => by rw [zL_s, pk_cpy_in (Nat.zero_le _) (by omega), show 0 + (k - 0) = k by omega, px.1]
  have a3 : (zL s1 178 (va_cpy (s1.1 9) (s1.1 178) 0 0 8)).2 = s1.2 := rfl
  generalize zL s1 178 (va_cpy (s1.1 9) (s1.1 178) 0 0 8) = s2 at a1 a2 a3 ⊢
  have hp2 : MR (n * 128) s2 t2 := fun i hi => by rw [f3, a3]; exact hp i hi
  have H := ziter_2 fX5_finish_43 fX10_digests_100 (fun i (σ τ : zSt) => (∀ k, k < 8 → σ.1 178 k = τ.1 12 k) ∧ ((∀ id, id ≠ 177 → id ≠ 178 → σ.1 id = s.1 id) ∧ σ.2 = s1.2) ∧ (∀ id, id ≠ 11 → id ≠ 12 → id ≠ 13 → τ.1 id = t.1 id) ∧ τ.2 = t1.2) n ?_ n 0 s2 t2 (by omega) ?_
  rotate_left
  · intro i σ τ hi ⟨h1, ⟨h2, h2'⟩, h3, h4⟩
    have hM2 : MR (n * 128) σ τ := fun j hj => by rw [h4, h2']; exact hp j hj
    obtain ⟨c1, ⟨c2, c2'⟩, c3, c4⟩ := sch_rel (b := i) hM2 (by omega) _ rfl
    have eA : fX5_finish_43 i σ = fX5_mix (fX5_fillSchedule (128 * i) σ) := rfl
    have eB : fX10_digests_100 i τ = ziter fX10_block_423 0 8 (ziter fX10_block_188 0 80 (ziter fX10_block_162 0 8 (ziter fX10_block_63 16 64 (ziter (fX10_block_2 (128 * i)) 0 16 τ)))) := rfl
    rw [eA, eB]
    generalize fX5_fillSchedule (128 * i) σ = σ1 at c1 c2 c2' ⊢
    generalize ziter fX10_block_63 16 64 (ziter (fX10_block_2 (128 * i)) 0 16 τ) = τ1 at c1 c3 c4 ⊢
    obtain ⟨m1, ⟨m2, m2'⟩, m3, m4⟩ := mix_rel (s := σ1) (t := τ1) (fun k hk => by rw [c2 10 (by omega), h2 10 (by omega) (by omega), c3 6 (by omega), h3 6 (by omega) (by omega) (by omega)]; exact hK k hk) c1 (fun k hk => by rw [c2 178 (by omega), c3 12 (by omega)]; exact h1 k hk) _ rfl
    exact ⟨m1, ⟨fun id q1 q2 => by rw [m2 id q2, c2 id q1, h2 id q1 q2], by rw [m2', c2', h2']⟩, fun id q1 q2 q3 => by rw [m3 id q2 q3, c3 id q1, h3 id q1 q2 q3], by rw [m4, c4, h4]⟩
  · exact ⟨fun k hk => by rw [a2 k hk, f2 k hk, pm.1]; exact hF k hk, ⟨fun id q1 q2 => a1 id q2, a3⟩, fun id q1 q2 q3 => t2r id q2, f3⟩
  generalize ziter fX5_finish_43 0 n s2 = s3 at H ⊢
  generalize ziter fX10_digests_100 0 n t2 = t3 at H ⊢
  obtain ⟨h1, ⟨h2, h2'⟩, h3, h4⟩ := H
  have g := zmap0 (F := fX5_finish_72 out) (s0 := s3) out 8 (fun i => vX5_turned (s3.1 178 i) s) (fun i σ hi h => by
    show zW σ out i (vX5_turned (σ.1 178 i) σ) = _
    rw [h 178 i (by omega)]
    rfl)
  have g3 : (ziter (fX5_finish_72 out) 0 8 s3).2 = s3.2 := ziter_keep (fun z : zSt => z.2) (fX5_finish_72 out) (fun _ _ => rfl) 8 0 s3
  generalize ziter (fX5_finish_72 out) 0 8 s3 = s4 at g g3 ⊢
  obtain ⟨g1, g2⟩ := g
  have K := ziter_I fX10_digests_124 (fun i σ => σ.1 = t3.1 ∧ (∀ id, id ≠ 14 → σ.2.1 id = t3.2.1 id) ∧ σ.2.2 = t3.2.2 ∧ ∀ k, k < i → σ.2.1 14 k = nI (dgb (t3.1 12) k)) 64 ?_ 64 0 t3 (by omega) ⟨rfl, fun _ _ => rfl, rfl, fun k hk => absurd hk (Nat.not_lt_zero k)⟩
  rotate_left
  · intro i σ hi ⟨k1, k2, k3, k4⟩
    have e : fX10_digests_124 i σ = zV σ 14 i (nI (dgb (t3.1 12) i)) := by
      show zV σ 14 i (nI (((zus (σ.1 12 (i / 2 ^ 3)) (8 * (7 - (i % 2 ^ 3)))).toInt32).toBitVec.toNat % 2 ^ 8)) = _
      rw [k1]
      rfl
    rw [e]
    refine ⟨k1, fun id q => ?_, k3, fun k hk => ?_⟩
    · rw [zV_ne _ _ _ q]
      exact k2 id q
    · rw [zV_at]
      by_cases q : k = i
      · rw [q, pk_us]
      · rw [pk_un q]
        exact k4 k (by omega)
  generalize ziter fX10_digests_124 0 64 t3 = t4 at K ⊢
  obtain ⟨k1, k2, k3, k4⟩ := K
  refine ⟨t3.1 12, fun k hk => ?_, fun k hk => ?_, fun id q1 q2 q3 => ?_, fun id q => ?_, fun k q => ?_, fun id q1 q2 q3 => ?_, fun id q1 q2 => ?_, fun k q => ?_, ?_⟩
  · rw [g2 k hk, h1 k hk]
  · rw [zI_b]
    exact k4 k hk
  · rw [show s4.1 id = s3.1 id from funext fun j => g1 id j (Or.inl q3)]
    exact h2 id q1 q2
  · rw [g3, h2']
    exact px.2.1 id q
  · rw [g3, h2']
    exact px.2.2 k q
  · rw [zI_1, k1]
    exact h3 id q1 q2 q3
  · rw [zI_b, k2 id q2, h4]
    exact pm.2.1 id q1
  · rw [zI_n _ _ q, k3, h4]
    exact pm.2.2 k q
  · exact zI_s _ _ _
theorem byteL (w : Int64) {k : Nat} (hk : k < 64) : (nI (((zus w k).toInt32).toBitVec.toNat % 2 ^ 8)).toInt64 = zus w k &&& 255 := by
  have hm : (255 : Int64).toBitVec.toNat = 2 ^ 8 - 1 := by decide
  have e1 := tN_and (zus w k) 255 hm
  have e2 := tN_i32 (zus w k)
  have h1 : ((zus w k).toInt32).toBitVec.toNat % 2 ^ 8 = tN (zus w k) % 2 ^ 8 := by
    rw [e2]
    omega
  rw [h1]
  have h2 : tN (zus w k) % 2 ^ 8 < 256 := Nat.mod_lt _ (by decide)
  apply tN_inj
  rw [e1]
  generalize tN (zus w k) % 2 ^ 8 = n at h2
  have h3 : ((nI n).toInt64).toInt = (n : Int) := by rw [Int32.toInt_toInt64, nI_toInt (by omega)]
  have h4 := tN_pos (x := (nI n).toInt64) (by omega)
  omega
theorem zd8 {α : Type} {f g : Nat → α → α} {x : α} (h : ∀ k y, k < 8 → f k y = g (7 - k) y) : zdown g 8 x = ziter f 0 8 x := by
  show g 0 (g 1 (g 2 (g 3 (g 4 (g 5 (g 6 (g 7 x))))))) = f 7 (f 6 (f 5 (f 4 (f 3 (f 2 (f 1 (f 0 x)))))))
  rw [h 0 _ (by omega), h 1 _ (by omega), h 2 _ (by omega), h 3 _ (by omega), h 4 _ (by omega), h 5 _ (by omega), h 6 _ (by omega), h 7 _ (by omega)]
theorem dgw {W : Nat → Int64} {t : zSt} {p q : Nat} (hD : DG W t) (hq : q + 4 ≤ 8) : w4fr p t (fX10_digestWords p (8 * q) t) ∧ (fX10_digestWords p (8 * q) t).2 = t.2 ∧ ∀ i, i < 4 → (fX10_digestWords p (8 * q) t).1 4 (p + i) = vX5_turned (W (q + i)) t := by
  have hv : ∀ i σ, i < 4 → σ.2 = t.2 → fX10_digestWords_2 p (8 * q) i σ = zW σ 4 (p + i) (vX5_turned (W (q + i)) t) := fun i σ hi h => by
    have e : zdown (fX10_digestWords_14 (8 * q) i σ) 8 0 = vX5_turned (W (q + i)) t := by
      refine zd8 (f := fX5_turned_5 (W (q + i))) (fun k y hk => ?_)
      show zsl y 8 ||| (zus (W (q + i)) (8 * k) &&& 255) = zsl y 8 ||| (σ.2.1 14 ((8 * q + 8 * i) + (7 - k))).toInt64
      rw [h, hD _ (by omega), ← byteL _ (by omega)]
      unfold dgb
      rw [show (8 * q + 8 * i + (7 - k)) / 8 = q + i by omega, show (8 * q + 8 * i + (7 - k)) % 8 = 7 - k by omega, show 8 * (7 - (7 - k)) = 8 * k by omega]
    show zW σ 4 (p + i) (zdown (fX10_digestWords_14 (8 * q) i σ) 8 0) = _
    rw [e]
  have H := ziter_I (fX10_digestWords_2 p (8 * q)) (fun i σ => (∀ id j, ¬ (id = 4 ∧ p ≤ j ∧ j < p + i) → σ.1 id j = t.1 id j) ∧ σ.2 = t.2 ∧ ∀ k, k < i → σ.1 4 (p + k) = vX5_turned (W (q + k)) t) 4 ?_ 4 0 t (by omega) ⟨fun _ _ _ => rfl, rfl, fun k hk => absurd hk (Nat.not_lt_zero k)⟩
  · exact H
  intro i σ hi ⟨h1, h2, h3⟩
  rw [hv i σ hi h2]
  refine ⟨fun id j h => ?_, h2, fun k hk => ?_⟩
  · by_cases e : id = 4
    · subst e
      rw [zW_at, pk_uLn (by omega)]
      exact h1 4 j (by omega)
    · rw [zW_ne _ _ _ e]
      exact h1 id j (by omega)
  · rw [zW_at]
    by_cases e : k = i
    · rw [e, pk_uLs]
    · rw [pk_uLn (by omega)]
      exact h3 k (by omega)
theorem trn_1 {x b : Int64} (hb : tN b < 256) : tN (zsl x 8 ||| b) = tN x * 256 % 18446744073709551616 + tN b := by
  have e := mq_zsl x (k := 8) (by omega)
  have h : tN x * 256 % 18446744073709551616 = 2 ^ 8 * (tN x % 72057594037927936) := by omega
  rw [tN_or, e, show tN x * 2 ^ 8 = tN x * 256 from rfl, h]
  exact (Nat.two_pow_add_eq_or_of_lt (i := 8) hb _).symm
def byt (w : Int64) (k : Nat) : Nat := tN w / 2 ^ (8 * k) % 256
theorem byt_lt (w : Int64) (k : Nat) : byt w k < 256 := Nat.mod_lt _ (by decide)
theorem trn (w : Int64) (s : zSt) : tN (vX5_turned w s) = byt w 7 + byt w 6 * 2 ^ 8 + byt w 5 * 2 ^ 16 + byt w 4 * 2 ^ 24 + byt w 3 * 2 ^ 32 + byt w 2 * 2 ^ 40 + byt w 1 * 2 ^ 48 + byt w 0 * 2 ^ 56 := by
  have hm : (255 : Int64).toBitVec.toNat = 2 ^ 8 - 1 := by decide
  have hb : ∀ k, k < 8 → tN (zus w (8 * k) &&& 255) = byt w k := fun k hk => by
    rw [tN_and (zus w (8 * k)) 255 hm, mq_zus w (by omega)]
    rfl
  have hl := byt_lt w
  have st : ∀ k x, k < 8 → tN (fX5_turned_5 w k x) = tN x * 256 % 18446744073709551616 + byt w k := fun k x hk => by
    have e := trn_1 (x := x) (b := zus w (8 * k) &&& 255) (by rw [hb k hk]; exact hl k)
    rw [hb k hk] at e
    exact e
  show tN (fX5_turned_5 w 7 (fX5_turned_5 w 6 (fX5_turned_5 w 5 (fX5_turned_5 w 4 (fX5_turned_5 w 3 (fX5_turned_5 w 2 (fX5_turned_5 w 1 (fX5_turned_5 w 0 0)))))))) = _
  have l0 := hl 0
  have l1 := hl 1
  have l2 := hl 2
  have l3 := hl 3
  have l4 := hl 4
  have l5 := hl 5
  have l6 := hl 6
  have l7 := hl 7
  rw [st 7 _ (by omega), st 6 _ (by omega), st 5 _ (by omega), st 4 _ (by omega), st 3 _ (by omega), st 2 _ (by omega), st 1 _ (by omega), st 0 _ (by omega), zo]
  omega
theorem dgb_byt (W : Nat → Int64) (k : Nat) (hk : k < 64) : dgb W k = byt (W (k / 8)) (7 - k % 8) := by
  unfold dgb byt
  rw [tN_i32, mq_zus _ (by omega)]
  omega
theorem trn_d (w : Int64) (s : zSt) : ∀ j, j < 8 → tN (vX5_turned w s) / 2 ^ (8 * j) % 256 = byt w (7 - j) := by
  intro j hj
  rw [trn]
  have l0 := byt_lt w 0
  have l1 := byt_lt w 1
  have l2 := byt_lt w 2
  have l3 := byt_lt w 3
  have l4 := byt_lt w 4
  have l5 := byt_lt w 5
  have l6 := byt_lt w 6
  have l7 := byt_lt w 7
  have hc : j = 0 ∨ j = 1 ∨ j = 2 ∨ j = 3 ∨ j = 4 ∨ j = 5 ∨ j = 6 ∨ j = 7 := by omega
  rcases hc with rfl | rfl | rfl | rfl | rfl | rfl | rfl | rfl
  · show _ = byt w 7
    omega
  · show _ = byt w 6
    omega
  · show _ = byt w 5
    omega
  · show _ = byt w 4
    omega
  · show _ = byt w 3
    omega
  · show _ = byt w 2
    omega
  · show _ = byt w 1
    omega
  · show _ = byt w 0
    omega
theorem or16 {a b : Nat} (ha : a < 256) (hb : b < 256) : ((nI a ||| (nI b <<< ((nI 8) &&& 31))).toInt64).toInt = ((a + 256 * b : Nat) : Int) := by
  have e1 : nI b <<< ((nI 8) &&& 31) = nI (b * 2 ^ 8) := pk_shlN _ 8 (by decide) (by omega)
  have e2 : nI a ||| nI (b * 2 ^ 8) = nI (a + 256 * b) := by
    apply Int32.toBitVec_inj.mp
    apply BitVec.eq_of_toNat_eq
    rw [Int32.toBitVec_or, BitVec.toNat_or, pk_tn (by omega), pk_tn (by omega), pk_tn (by omega), mq_or (k := 8) (by omega)]
    omega
  rw [e1, e2, Int32.toInt_toInt64, nI_toInt (by omega)]
theorem cM_dsc {W : Nat → Int64} {t : zSt} {p : Nat} {r : Nat → Int64} (hD : DG W t) (hL : w4 t 32 = 7237005577332262213973186563042994240857116359379907606001950938285454250989) (hr : ∀ k, k < 8 → r k = vX5_turned (W k) t) :
    (∀ id j, id ≠ 15 → id ≠ 16 → ¬ (id = 4 ∧ p ≤ j ∧ j < p + 4) → (fX10_digestScalar p t).1 id j = t.1 id j) ∧ w4 (fX10_digestScalar p t) p = rN r 8 % 7237005577332262213973186563042994240857116359379907606001950938285454250989 := by
  have z0 : (0 : Int64).toInt = 0 := by decide
  have eF : fX10_digestScalar p t = fX10_modulo p (ziter fX10_digestScalar_2 0 40 t) := rfl
  rw [eF]
  have hd : ∀ k, k < 64 → dgb W k = rN r 8 / 2 ^ (8 * k) % 256 := fun k hk => by
    have e := rN_bits r (n := 8) (pos := 8 * k) (q := 8) (by omega) (by omega)
    rw [hr (8 * k / 64) (by omega), show 8 * k % 64 = 8 * (k % 8) by omega] at e
    have e2 := trn_d (W (8 * k / 64)) t (k % 8) (by omega)
    rw [dgb_byt W k hk, show k / 8 = 8 * k / 64 by omega, ← e2]
    exact e
  have H := ziter_I fX10_digestScalar_2 (fun i σ => (∀ id j, (id ≠ 15 ∨ i ≤ j) → σ.1 id j = t.1 id j) ∧ σ.2 = t.2 ∧ ∀ k, k < i → (σ.1 15 k).toInt = if k < 32 then ((rN r 8 / 2 ^ (16 * k) % 2 ^ 16 : Nat) : Int) else 0) 40 ?_ 40 0 t (by omega) ⟨fun _ _ _ => rfl, rfl, fun k hk => absurd hk (Nat.not_lt_zero k)⟩
  · generalize ziter fX10_digestScalar_2 0 40 t = u at H ⊢
    obtain ⟨h1, h2, h3⟩ := H
    have fr : ∀ id, id ≠ 15 → u.1 id = t.1 id := fun id h => funext fun j => h1 id j (Or.inl h)
    have hV : rv 16 (u.1 15) 34 = ((rN r 8 : Nat) : Int) := by
      have e1 : rv 16 (u.1 15) 32 = ((rN r 8 % 2 ^ (16 * 32) : Nat) : Int) := limbs_sum 16 (fun i => (u.1 15 i).toInt) (rN r 8) 32 (fun i hi => by
        show (u.1 15 i).toInt = _
        rw [h3 i (by omega), if_pos hi])
      have e2 : rN r 8 % 2 ^ (16 * 32) = rN r 8 := Nat.mod_eq_of_lt (rN_lt r 8)
      rw [e2] at e1
      rw [rv_succ, rv_succ, e1, h3 32 (by omega), h3 33 (by omega), if_neg (by omega), if_neg (by omega), Int.zero_mul, Int.zero_mul, Int.add_zero, Int.add_zero]
    obtain ⟨m1, m2⟩ := cM_modulo (p := p) (by rw [w4_keep (t := u) (s := t) (fun k hk => by rw [fr 4 (by omega)])]; exact hL) (fun i hi => by
      rw [h3 i (by omega)]
      by_cases q : i < 32
      · rw [if_pos q]
        have : rN r 8 / 2 ^ (16 * i) % 2 ^ 16 < 2 ^ 16 := Nat.mod_lt _ (by decide)
        omega
      · rw [if_neg q]
        omega) hV
    exact ⟨fun id j n1 n2 n3 => by rw [m1 id j n2 n3, fr id n1], m2⟩
  intro i σ hi ⟨h1, h2, h3⟩
  have e : ∃ x : Int64, fX10_digestScalar_2 i σ = zW σ 15 i x ∧ x.toInt = if i < 32 then ((rN r 8 / 2 ^ (16 * i) % 2 ^ 16 : Nat) : Int) else 0 := by
    unfold fX10_digestScalar_2 fX10_digestScalar_a1 fX10_digestScalar_a2
    by_cases q : 32 ≤ i
    · rw [if_pos q, if_neg (by omega)]
      exact ⟨0, rfl, z0⟩
    · rw [if_neg q, if_pos (by omega)]
      refine ⟨_, rfl, ?_⟩
      rw [h2, hD (2 * i) (by omega), hD (2 * i + 1) (by omega), or16 (dgb_lt _ _) (dgb_lt _ _), hd (2 * i) (by omega), hd (2 * i + 1) (by omega)]
      congr 1
      have e5 : rN r 8 / 2 ^ (8 * (2 * i + 1)) = rN r 8 / 2 ^ (16 * i) / 256 := by
        rw [Nat.div_div_eq_div_mul, show 8 * (2 * i + 1) = 16 * i + 8 by omega, Nat.pow_add]
      rw [e5, show 8 * (2 * i) = 16 * i by omega]
      generalize rN r 8 / 2 ^ (16 * i) = X
      omega
  obtain ⟨x, e1, e2⟩ := e
  rw [e1]
  refine ⟨fun id j h => ?_, h2, fun k hk => ?_⟩
  · by_cases q : id = 15
    · subst q
      rw [zW_at, pk_uLn (by omega)]
      exact h1 15 j (by omega)
    · rw [zW_ne _ _ _ q]
      exact h1 id j (Or.inl q)
  · rw [zW_at]
    by_cases q : k = i
    · rw [q, pk_uLs]
      exact e2
    · rw [pk_uLn q]
      exact h3 k (by omega)
