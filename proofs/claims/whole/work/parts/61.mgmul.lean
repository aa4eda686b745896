/-! the reference's products, packing, powers -/
/-- what changes: row r of row 2, and the row of products -/
def mf3 (r : Nat) (s t : zSt) : Prop := ∀ id j, id ≠ 3 → ¬ (id = 2 ∧ 16 * r ≤ j ∧ j < 16 * r + 16) → t.1 id j = s.1 id j
theorem mf3.trans {r : Nat} {s t u : zSt} (h : mf3 r s t) (g : mf3 r t u) : mf3 r s u := fun id j q1 q2 => (g id j q1 q2).trans (h id j q1 q2)
theorem mfr.to3 {r : Nat} {s t : zSt} (h : mfr r s t) : mf3 r s t := fun id j _ q => h id j q
theorem mM_inner (a b i : Nat) (σ : zSt) (hi : i < 16) {A B : Int} (hA : -A ≤ (gr σ a i).toInt ∧ (gr σ a i).toInt ≤ A) (hB : ∀ j, j < 16 → -B ≤ (gr σ b j).toInt ∧ (gr σ b j).toInt ≤ B) (hM : A * B ≤ 17592186044416) (hW : ∀ k, k < 32 → -281474976710656 ≤ (σ.1 3 k).toInt ∧ (σ.1 3 k).toInt ≤ 281474976710656) :
    (∀ id, id ≠ 3 → (ziter (fX10_multiply_37 a b i) 0 16 σ).1 id = σ.1 id) ∧ rv 16 ((ziter (fX10_multiply_37 a b i) 0 16 σ).1 3) 32 = rv 16 (σ.1 3) 32 + (gr σ a i).toInt * 2 ^ (16 * i) * rv 16 (gr σ b) 16
      ∧ (∀ k, k < 32 → -17592186044416 ≤ ((ziter (fX10_multiply_37 a b i) 0 16 σ).1 3 k).toInt - (σ.1 3 k).toInt ∧ ((ziter (fX10_multiply_37 a b i) 0 16 σ).1 3 k).toInt - (σ.1 3 k).toInt ≤ 17592186044416) := by
  have H := ziter_I (fX10_multiply_37 a b i) (fun j τ => (∀ id, id ≠ 3 → τ.1 id = σ.1 id) ∧ rv 16 (τ.1 3) 32 = rv 16 (σ.1 3) 32 + (gr σ a i).toInt * 2 ^ (16 * i) * rv 16 (gr σ b) j ∧ (∀ k, i + j ≤ k → τ.1 3 k = σ.1 3 k) ∧ (∀ k, k < 32 → -17592186044416 ≤ (τ.1 3 k).toInt - (σ.1 3 k).toInt ∧ (τ.1 3 k).toInt - (σ.1 3 k).toInt ≤ 17592186044416)) 16 ?_ 16 0 σ (by omega)
    ⟨fun _ _ => rfl, by rw [rv_0, Int.mul_zero, Int.add_zero], fun _ _ => rfl, fun _ _ => by omega⟩
  · exact ⟨H.1, H.2.1, H.2.2.2⟩
  intro j τ hj ⟨h1, h2, h3, h4⟩
  have e2 : τ.1 2 = σ.1 2 := h1 2 (by omega)
  have hp := mq_mulb hA (hB j hj)
  have hw := hW (i + j) (by omega)
  have e3 := h3 (i + j) (by omega)
  have hprod : (gr σ a i * gr σ b j).toInt = (gr σ a i).toInt * (gr σ b j).toInt := mq_mulL (by omega) (by omega)
  have hsum : (σ.1 3 (i + j) + gr σ a i * gr σ b j).toInt = (σ.1 3 (i + j)).toInt + (gr σ a i).toInt * (gr σ b j).toInt := by
    rw [mq_addL (by rw [hprod]; omega) (by rw [hprod]; omega), hprod]
  have eF : fX10_multiply_37 a b i j τ = zW τ 3 (i + j) (σ.1 3 (i + j) + gr σ a i * gr σ b j) := by
    show zW τ 3 (i + j) (τ.1 3 (i + j) + τ.1 2 (16 * a + i) * τ.1 2 (16 * b + j)) = _
    rw [e2, e3]
    rfl
  rw [eF]
  refine ⟨fun id hid => ?_, ?_, fun k hk => ?_, fun k hk => ?_⟩
  · rw [zW_ne _ _ _ hid]
    exact h1 id hid
  · rw [zW_at, rv_upd (by omega), hsum, h2, rv_succ, e3]
    have e5 : (2 : Int) ^ (16 * (i + j)) = 2 ^ (16 * i) * 2 ^ (16 * j) := by rw [Nat.mul_add, Int.pow_add]
    rw [e5]
    exact rg_a _ _ _ _ _ _ _
  · rw [zW_at, pk_uLn (by omega)]
    exact h3 k (by omega)
  · rw [zW_at]
    by_cases e : k = i + j
    · rw [e, pk_uLs, hsum]
      omega
    · rw [pk_uLn e]
      exact h4 k hk
theorem mM_outer (a b : Nat) (s : zSt) {A B : Int} (hA : ∀ j, j < 16 → -A ≤ (gr s a j).toInt ∧ (gr s a j).toInt ≤ A) (hB : ∀ j, j < 16 → -B ≤ (gr s b j).toInt ∧ (gr s b j).toInt ≤ B) (hM : A * B ≤ 17592186044416) (h0 : ∀ k, k < 32 → s.1 3 k = 0) :
    (∀ id, id ≠ 3 → (ziter (fX10_multiply_27 a b) 0 16 s).1 id = s.1 id) ∧ rv 16 ((ziter (fX10_multiply_27 a b) 0 16 s).1 3) 32 = rv 16 (gr s a) 16 * rv 16 (gr s b) 16
      ∧ (∀ k, k < 32 → -281474976710656 ≤ ((ziter (fX10_multiply_27 a b) 0 16 s).1 3 k).toInt ∧ ((ziter (fX10_multiply_27 a b) 0 16 s).1 3 k).toInt ≤ 281474976710656) := by
  have z0 : (0 : Int64).toInt = 0 := by decide
  have hs0 : rv 16 (s.1 3) 32 = 0 := by
    have e : rv 16 (s.1 3) 32 = rv 16 (fun _ => 0) 32 := rv_congr h0
    rw [e]
    decide
  have H := ziter_I (fX10_multiply_27 a b) (fun i σ => (∀ id, id ≠ 3 → σ.1 id = s.1 id) ∧ rv 16 (σ.1 3) 32 = rv 16 (gr s a) i * rv 16 (gr s b) 16 ∧ (∀ k, k < 32 → -(17592186044416 * (i : Int)) ≤ (σ.1 3 k).toInt ∧ (σ.1 3 k).toInt ≤ 17592186044416 * (i : Int))) 16 ?_ 16 0 s (by omega)
    ⟨fun _ _ => rfl, by rw [rv_0, Int.zero_mul, hs0], fun k hk => by rw [h0 k hk, z0]; omega⟩
  · exact ⟨H.1, H.2.1, fun k hk => by have := H.2.2 k hk; omega⟩
  intro i σ hi ⟨h1, h2, h3⟩
  have e2 : ∀ r, gr σ r = gr s r := fun r => by
    unfold gr
    rw [h1 2 (by omega)]
  obtain ⟨g1, g2, g4⟩ := mM_inner a b i σ hi (A := A) (B := B) (by rw [e2]; exact hA i hi) (by rw [e2]; exact hB) hM (fun k hk => by have := h3 k hk; omega)
  refine ⟨fun id hid => (g1 id hid).trans (h1 id hid), ?_, fun k hk => ?_⟩
  · show rv 16 ((ziter (fX10_multiply_37 a b i) 0 16 σ).1 3) 32 = _
    rw [g2, h2, rv_succ, e2, e2]
    exact (Int.add_mul _ _ _).symm
  · have p1 := h3 k hk
    have p2 := g4 k hk
    show -(17592186044416 * ((i + 1 : Nat) : Int)) ≤ ((ziter (fX10_multiply_37 a b i) 0 16 σ).1 3 k).toInt ∧ ((ziter (fX10_multiply_37 a b i) 0 16 σ).1 3 k).toInt ≤ 17592186044416 * ((i + 1 : Nat) : Int)
    omega
theorem mmul {k m : Nat} (h : k * m ≤ 1024) : (k : Int) * 131072 * ((m : Int) * 131072) ≤ 17592186044416 := by
  have h2 : ((k * m : Nat) : Int) ≤ 1024 := by omega
  rw [Int.natCast_mul] at h2
  have h3 : (k : Int) * 131072 * ((m : Int) * 131072) = (k : Int) * (m : Int) * 17179869184 := by grind
  rw [h3]
  omega
theorem cM_mul {s : zSt} {r a b k m : Nat} {x y : Int} (fa : mf s a x k) (fb : mf s b y m) (hk : k * m ≤ 1024) : mf3 r s (fX10_multiply r a b s) ∧ mf (fX10_multiply r a b s) r (x * y) 1 := by
  have h := zmap0 (F := fX10_multiply_3) (s0 := s) 3 32 (fun _ => 0) (fun i σ _ _ => rfl)
  have eF : fX10_multiply r a b s = fX10_reduce r (fX10_reduce r (fX10_reduce r (ziter (fX10_multiply_97 r) 0 16 (ziter (fX10_multiply_27 a b) 0 16 (ziter fX10_multiply_3 0 32 s))))) := rfl
  rw [eF]
  generalize ziter fX10_multiply_3 0 32 s = t at h
  obtain ⟨f1, f2⟩ := h
  have f3 : ∀ id, id ≠ 3 → t.1 id = s.1 id := fun id hid => funext fun j => f1 id j (Or.inl hid)
  have e2 : ∀ r, gr t r = gr s r := fun r => by
    unfold gr
    rw [f3 2 (by omega)]
  obtain ⟨g1, g2, g3⟩ := mM_outer a b t (A := (k : Int) * 131072) (B := (m : Int) * 131072) (by rw [e2]; exact fa.2) (by rw [e2]; exact fb.2) (mmul hk) f2
  generalize ziter (fX10_multiply_27 a b) 0 16 t = u at g1 g2 g3
  have h := zmap (F := fX10_multiply_97 r) (s0 := u) 2 (16 * r) 16 (fun i => u.1 3 i + 38 * u.1 3 (i + 16)) (fun i σ hi h => by
    show zW σ 2 (16 * r + i) (σ.1 3 i + 38 * σ.1 3 (i + 16)) = _
    rw [h 3 i (by omega), h 3 (i + 16) (by omega)])
  generalize ziter (fX10_multiply_97 r) 0 16 u = v at h
  obtain ⟨p1, p2⟩ := h
  have hb : ∀ i, i < 16 → (gr v r i).toInt = (u.1 3 i).toInt + 38 * (u.1 3 (10 + 6 + i)).toInt := fun i hi => by
    have a1 := g3 i (by omega)
    have a2 := g3 (i + 16) (by omega)
    have e : gr v r i = u.1 3 i + 38 * u.1 3 (i + 16) := p2 i hi
    have e3 := mq_38 (u.1 3 (i + 16)) (by omega) (by omega)
    rw [e, mq_addL (by omega) (by omega), e3, Nat.add_comm i 16]
  have hv : zc (rv 16 (gr v r) 16) (rv 16 (u.1 3) 32) := by
    have e1 : ∀ n, n ≤ 16 → rv 16 (gr v r) n = rv 16 (u.1 3) n + 38 * rv 16 (fun i => u.1 3 (16 + i)) n := fun n => by
      induction n with
      | zero => intro _; rfl
      | succ n ih =>
        intro hn
        rw [rv_succ, rv_succ, rv_succ, ih (by omega), hb n (by omega)]
        have : ∀ (A B C D P : Int), A + 38 * B + (C + 38 * D) * P = A + C * P + 38 * (B + D * P) := by intros; grind
        exact this _ _ _ _ _
    have e2 := rv_split 16 (u.1 3) 16 16
    have e3 := e1 16 (Nat.le_refl _)
    rw [show (16 + 16 : Nat) = 32 from rfl] at e2
    refine ⟨-(2 * rv 16 (fun i => u.1 3 (16 + i)) 16), ?_⟩
    rw [e3, e2]
    omega
  obtain ⟨r1, r2, r3, r4⟩ := mR_reduce r v 10977524091715584 274877906944 167507918848 (fun i hi => by
    have a1 := g3 i (by omega)
    have a2 := g3 (10 + 6 + i) (by omega)
    rw [hb i hi]
    omega) (by omega) (by omega) (by omega) (by omega) (by omega)
  generalize fX10_reduce r v = v1 at r1 r2
  obtain ⟨s1, s2, s3⟩ := r2
  generalize hT0 : rv 16 (gr v r) 16 = T0 at *
  obtain ⟨q1, q2, q3, q4⟩ := mR_reduce r v1 8796093022208 268435456 268435456 (fun i hi => by
    by_cases q : i = 0
    · subst q
      omega
    · have := s2 i (by omega) hi
      omega) (by omega) (by omega) (by omega) (by omega) (by omega)
  generalize fX10_reduce r v1 = v2 at q1 q2
  obtain ⟨t1, t2, t3⟩ := q2
  generalize hT1 : rv 16 (gr v1 r) 16 = T1 at *
  have hq1 : -1 ≤ T1 / 2 ^ 256 ∧ T1 / 2 ^ 256 ≤ 1 := by omega
  have m2 : mf v2 r (rv 16 (gr v2 r) 16) 1 := ⟨zc_refl _, fun i hi => by
    by_cases q : i = 0
    · subst q
      omega
    · have := t2 i (by omega) hi
      omega⟩
  obtain ⟨w1, w2⟩ := cM_reduce m2 (by omega)
  generalize fX10_reduce r v2 = v3 at w1 w2
  refine ⟨fun id j n1 n2 => ?_, mf_congr w2 ?_⟩
  · rw [w1 id j n2, q1 id j n2, r1 id j n2, p1 id j (by omega), g1 id n1, f3 id n1]
  · have c1 : zc (rv 16 (gr v2 r) 16) T1 := ⟨-(2 * (T1 / 2 ^ 256)), by rw [t3]; omega⟩
    have c2 : zc T1 T0 := ⟨-(2 * (T0 / 2 ^ 256)), by rw [s3]; omega⟩
    refine zc_trans c1 (zc_trans c2 (zc_trans hv ?_))
    rw [g2, e2, e2]
    exact zc_mul fa.1 fb.1
theorem cM_put {s : zSt} {r : Nat} {v : Int64} (h1 : 0 ≤ v.toInt) (h2 : v.toInt ≤ 4294967296) : mfr r s (fX10_put r v s) ∧ mf (fX10_put r v s) r v.toInt 1 := by
  have h := zmap (F := fX10_put_3 r) (s0 := s) 2 (16 * r) 16 (fun _ => 0) (fun i σ _ _ => rfl)
  have eF : fX10_put r v s = zW (zW (ziter (fX10_put_3 r) 0 16 s) 2 (16 * r + 0) (v &&& 65535)) 2 (16 * r + 1) (zsr v 16) := rfl
  rw [eF]
  generalize ziter (fX10_put_3 r) 0 16 s = t at h
  obtain ⟨g1, g2⟩ := h
  have e1 : gr (zW (zW t 2 (16 * r + 0) (v &&& 65535)) 2 (16 * r + 1) (zsr v 16)) r = vp_updL (vp_updL (gr t r) 0 (v &&& 65535)) 1 (zsr v 16) := by rw [gr_at, gr_at]
  have z0 : (0 : Int64).toInt = 0 := by decide
  have e0 : ∀ i, i < 16 → gr t r i = (fun _ => (0 : Int64)) i := fun i hi => g2 i hi
  have hm := mq_m16 v
  have hr := mq_r16 v
  refine ⟨fun id j q => ?_, ?_, fun i hi => ?_⟩
  · rw [(mfr_w (r := r) (i := 1) (s := zW t 2 (16 * r + 0) (v &&& 65535)) _ (by omega)) id j q, (mfr_w (r := r) (i := 0) (s := t) _ (by omega)) id j q]
    exact g1 id j (by omega)
  · refine zc_of ?_
    rw [e1, rv_upd (by omega), rv_upd (by omega), pk_uLn (show (1 : Nat) ≠ 0 by omega), rv_congr e0, e0 0 (by omega), e0 1 (by omega), z0, hm, hr]
    have : rv 16 (fun _ => (0 : Int64)) 16 = 0 := by decide
    rw [this]
    omega
  · rw [e1]
    by_cases q : i = 1
    · rw [q, pk_uLs, hr]
      omega
    · rw [pk_uLn q]
      by_cases q2 : i = 0
      · rw [q2, pk_uLs, hm]
        omega
      · rw [pk_uLn q2, e0 i hi, z0]
        omega
theorem cM_unpack {s : zSt} {r p : Nat} : mfr r s (fX10_unpack r p s) ∧ mf (fX10_unpack r p s) r ((w4 s p % 2 ^ 255 : Nat) : Int) 1 := by
  have h := zmap (F := fX10_unpack_2 r p) (s0 := s) 2 (16 * r) 16 (fun i => zus (s.1 4 (p + i / 4)) (16 * (i % 4)) &&& 65535) (fun i σ hi h => by
    show zW σ 2 (16 * r + i) (zus (σ.1 4 (p + i / 4)) (16 * (i % 4)) &&& 65535) = _
    rw [h 4 (p + i / 4) (by omega)])
  have eF : ∀ u, u = ziter (fX10_unpack_2 r p) 0 16 s → fX10_unpack r p s = zW u 2 (16 * r + 15) (gr u r 15 &&& 32767) := fun u e => by rw [e]; rfl
  generalize hu : ziter (fX10_unpack_2 r p) 0 16 s = u at h
  rw [eF u hu.symm]
  obtain ⟨g1, g2⟩ := h
  have hm : (65535 : Int64).toBitVec.toNat = 2 ^ 16 - 1 := by decide
  have hl : ∀ i, i < 16 → (gr u r i).toInt = ((w4 s p / 2 ^ (16 * i) % 2 ^ 16 : Nat) : Int) := fun i hi => by
    have e : gr u r i = zus (s.1 4 (p + i / 4)) (16 * (i % 4)) &&& 65535 := g2 i hi
    have e2 := tN_and (zus (s.1 4 (p + i / 4)) (16 * (i % 4))) 65535 hm
    have e3 := rN_bits (fun j => s.1 4 (p + j)) (n := 4) (pos := 16 * i) (q := 16) (by omega) (by omega)
    rw [show 16 * i / 64 = i / 4 by omega, show 16 * i % 64 = 16 * (i % 4) by omega] at e3
    have e4 : tN (s.1 4 (p + i / 4)) / 2 ^ (16 * (i % 4)) % 2 ^ 16 = w4 s p / 2 ^ (16 * i) % 2 ^ 16 := e3
    rw [mq_zus _ (show 16 * (i % 4) < 64 by omega), e4] at e2
    have h2 : w4 s p / 2 ^ (16 * i) % 2 ^ 16 < 2 ^ 16 := Nat.mod_lt _ (by decide)
    rw [e, tN_int, e2, if_pos (by omega)]
  have hm15 := mq_m15 (gr u r 15)
  have h15 := hl 15 (by omega)
  have hs : rv 16 (gr u r) 15 = ((w4 s p % 2 ^ (16 * 15) : Nat) : Int) := limbs_sum 16 (fun i => (gr u r i).toInt) (w4 s p) 15 (fun i hi => hl i (by omega))
  have e1 : gr (zW u 2 (16 * r + 15) (gr u r 15 &&& 32767)) r = vp_updL (gr u r) 15 (gr u r 15 &&& 32767) := gr_at _ _ _ _
  refine ⟨fun id j q => ?_, ?_, fun i hi => ?_⟩
  · rw [(mfr_w (r := r) (i := 15) (s := u) _ (by omega)) id j q]
    exact g1 id j (by omega)
  · refine zc_of ?_
    rw [e1]
    show rv 16 _ (15 + 1) = _
    have e : rv 16 (vp_updL (gr u r) 15 (gr u r 15 &&& 32767)) 15 = rv 16 (gr u r) 15 := rv_congr (fun i hi => pk_uLn (by omega))
    rw [rv_succ, pk_uLs, e, hs, hm15, h15]
    generalize w4 s p = N
    omega
  · rw [e1]
    by_cases q : i = 15
    · rw [q, pk_uLs, hm15]
      omega
    · rw [pk_uLn q, hl i hi]
      have : w4 s p / 2 ^ (16 * i) % 2 ^ 16 < 2 ^ 16 := Nat.mod_lt _ (by decide)
      omega
