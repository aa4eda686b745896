/-! the reference's products of scalars -/
theorem sM_inner (a b i : Nat) (σ : zSt) (hi : i < 16) {A B : Nat} (hA : w4 σ a = A) (hB : w4 σ b = B) (hW : ∀ k, k < 40 → 0 ≤ (σ.1 15 k).toInt ∧ (σ.1 15 k).toInt ≤ 1099511627776) :
    (∀ id, id ≠ 15 → (ziter (fX10_scalarOf_37 a b i) 0 16 σ).1 id = σ.1 id) ∧ rv 16 ((ziter (fX10_scalarOf_37 a b i) 0 16 σ).1 15) 40 = rv 16 (σ.1 15) 40 + lbv A i * 2 ^ (16 * i) * zvl 16 (lbv B) 16
      ∧ (∀ k, k < 40 → 0 ≤ ((ziter (fX10_scalarOf_37 a b i) 0 16 σ).1 15 k).toInt - (σ.1 15 k).toInt ∧ ((ziter (fX10_scalarOf_37 a b i) 0 16 σ).1 15 k).toInt - (σ.1 15 k).toInt ≤ 4294967296) := by
  have H := ziter_I (fX10_scalarOf_37 a b i) (fun j τ => (∀ id, id ≠ 15 → τ.1 id = σ.1 id) ∧ rv 16 (τ.1 15) 40 = rv 16 (σ.1 15) 40 + lbv A i * 2 ^ (16 * i) * zvl 16 (lbv B) j ∧ (∀ k, i + j ≤ k → τ.1 15 k = σ.1 15 k) ∧ (∀ k, k < 40 → 0 ≤ (τ.1 15 k).toInt - (σ.1 15 k).toInt ∧ (τ.1 15 k).toInt - (σ.1 15 k).toInt ≤ 4294967296)) 16 ?_ 16 0 σ (by omega)
    ⟨fun _ _ => rfl, by rw [zvl_0, Int.mul_zero, Int.add_zero], fun _ _ => rfl, fun _ _ => by omega⟩
  · exact ⟨H.1, H.2.1, H.2.2.2⟩
  intro j τ hj ⟨h1, h2, h3, h4⟩
  have ra := lbv_r A i
  have rb := lbv_r B j
  have la : (vX10_limb (τ.1 4 (a + i / 4)) (i % 4) τ).toInt = lbv A i := by
    rw [limb_v a i hi, w4_keep (t := τ) (s := σ) (fun k hk => by rw [h1 4 (by omega)]), hA]
    rfl
  have lb : (vX10_limb (τ.1 4 (b + j / 4)) (j % 4) τ).toInt = lbv B j := by
    rw [limb_v b j hj, w4_keep (t := τ) (s := σ) (fun k hk => by rw [h1 4 (by omega)]), hB]
    rfl
  have hp0 : 0 ≤ lbv A i * lbv B j := Int.mul_nonneg ra.1 rb.1
  have hp := mq_mulb (x := lbv A i) (y := lbv B j) (A := 65536) (B := 65536) (by omega) (by omega)
  have hw := hW (i + j) (by omega)
  have e3 := h3 (i + j) (by omega)
  have hprod : (vX10_limb (τ.1 4 (a + i / 4)) (i % 4) τ * vX10_limb (τ.1 4 (b + j / 4)) (j % 4) τ).toInt = lbv A i * lbv B j := by
    rw [mq_mulL (by rw [la, lb]; omega) (by rw [la, lb]; omega), la, lb]
  have eF : fX10_scalarOf_37 a b i j τ = zW τ 15 (i + j) (σ.1 15 (i + j) + vX10_limb (τ.1 4 (a + i / 4)) (i % 4) τ * vX10_limb (τ.1 4 (b + j / 4)) (j % 4) τ) := by
    rw [← e3]
    rfl
  rw [eF]
  generalize vX10_limb (τ.1 4 (a + i / 4)) (i % 4) τ * vX10_limb (τ.1 4 (b + j / 4)) (j % 4) τ = x at hprod ⊢
  have hsum : (σ.1 15 (i + j) + x).toInt = (σ.1 15 (i + j)).toInt + lbv A i * lbv B j := by
    rw [mq_addL (by rw [hprod]; omega) (by rw [hprod]; omega), hprod]
  refine ⟨fun id hid => ?_, ?_, fun k hk => ?_, fun k hk => ?_⟩
  · rw [zW_ne _ _ _ hid]
    exact h1 id hid
  · rw [zW_at, rv_upd (by omega), hsum, h2, zvl_s, e3]
    have e5 : (2 : Int) ^ (16 * (i + j)) = 2 ^ (16 * i) * 2 ^ (16 * j) := by rw [Nat.mul_add, Int.pow_add]
    rw [e5]
    exact rg_a _ _ _ _ _ _ _
  · rw [zW_at, pk_uLn (by omega)]
    exact h3 k (by omega)
  · rw [zW_at]
    by_cases e : k = i + j
    · rw [e, pk_uLs, hsum]
      omega
    · rw [pk_uLn e]
      exact h4 k hk
theorem rv_z (w : Nat) : ∀ n, rv w (fun _ => 0) n = 0
  | 0 => rfl
  | n + 1 => by
    have z0 : (0 : Int64).toInt = 0 := by decide
    rw [rv_succ, rv_z w n, z0, Int.zero_mul]
    rfl
theorem sM_outer (a b : Nat) (s : zSt) {A B : Nat} (hA : w4 s a = A) (hB : w4 s b = B) (h0 : ∀ k, k < 40 → s.1 15 k = 0) :
    (∀ id, id ≠ 15 → (ziter (fX10_scalarOf_27 a b) 0 16 s).1 id = s.1 id) ∧ rv 16 ((ziter (fX10_scalarOf_27 a b) 0 16 s).1 15) 40 = zvl 16 (lbv A) 16 * zvl 16 (lbv B) 16
      ∧ (∀ k, k < 40 → 0 ≤ ((ziter (fX10_scalarOf_27 a b) 0 16 s).1 15 k).toInt ∧ ((ziter (fX10_scalarOf_27 a b) 0 16 s).1 15 k).toInt ≤ 68719476736) := by
  have z0 : (0 : Int64).toInt = 0 := by decide
  have hs0 : rv 16 (s.1 15) 40 = 0 := by
    have e : rv 16 (s.1 15) 40 = rv 16 (fun _ => 0) 40 := rv_congr h0
    rw [e]
    exact rv_z 16 40
  have H := ziter_I (fX10_scalarOf_27 a b) (fun i σ => (∀ id, id ≠ 15 → σ.1 id = s.1 id) ∧ rv 16 (σ.1 15) 40 = zvl 16 (lbv A) i * zvl 16 (lbv B) 16 ∧ (∀ k, k < 40 → 0 ≤ (σ.1 15 k).toInt ∧ (σ.1 15 k).toInt ≤ 4294967296 * (i : Int))) 16 ?_ 16 0 s (by omega)
    ⟨fun _ _ => rfl, by rw [zvl_0, Int.zero_mul, hs0], fun k hk => by rw [h0 k hk, z0]; omega⟩
  · exact ⟨H.1, H.2.1, fun k hk => by have := H.2.2 k hk; omega⟩
  intro i σ hi ⟨h1, h2, h3⟩
  obtain ⟨g1, g2, g4⟩ := sM_inner a b i σ hi (A := A) (B := B) (by rw [w4_keep (t := σ) (s := s) (fun k hk => by rw [h1 4 (by omega)]), hA]) (by rw [w4_keep (t := σ) (s := s) (fun k hk => by rw [h1 4 (by omega)]), hB]) (fun k hk => by have := h3 k hk; omega)
  refine ⟨fun id hid => (g1 id hid).trans (h1 id hid), ?_, fun k hk => ?_⟩
  · show rv 16 ((ziter (fX10_scalarOf_37 a b i) 0 16 σ).1 15) 40 = _
    rw [g2, h2, zvl_s]
    exact (Int.add_mul _ _ _).symm
  · have p1 := h3 k hk
    have p2 := g4 k hk
    show 0 ≤ ((ziter (fX10_scalarOf_37 a b i) 0 16 σ).1 15 k).toInt ∧ ((ziter (fX10_scalarOf_37 a b i) 0 16 σ).1 15 k).toInt ≤ 4294967296 * ((i + 1 : Nat) : Int)
    omega
theorem sM_chain (s : zSt) (hB : ∀ i, i < 40 → 0 ≤ (s.1 15 i).toInt ∧ (s.1 15 i).toInt ≤ 1099511627776) :
    (∀ id, id ≠ 15 → (ziter fX10_scalarOf_154 0 39 s).1 id = s.1 id) ∧ rv 16 ((ziter fX10_scalarOf_154 0 39 s).1 15) 40 = rv 16 (s.1 15) 40 ∧ (∀ j, j < 39 → 0 ≤ ((ziter fX10_scalarOf_154 0 39 s).1 15 j).toInt ∧ ((ziter fX10_scalarOf_154 0 39 s).1 15 j).toInt < 65536) ∧ 0 ≤ ((ziter fX10_scalarOf_154 0 39 s).1 15 39).toInt := by
  have H := ziter_I fX10_scalarOf_154 (fun i σ => (∀ id, id ≠ 15 → σ.1 id = s.1 id) ∧ rv 16 (σ.1 15) 40 = rv 16 (s.1 15) 40 ∧ (∀ j, j < i → 0 ≤ (σ.1 15 j).toInt ∧ (σ.1 15 j).toInt < 65536) ∧ (∀ j, i < j → σ.1 15 j = s.1 15 j) ∧ 0 ≤ (σ.1 15 i).toInt ∧ (σ.1 15 i).toInt ≤ 4398046511104) 39 ?_ 39 0 s (by omega)
    ⟨fun _ _ => rfl, rfl, fun j hj => absurd hj (Nat.not_lt_zero j), fun _ _ => rfl, (hB 0 (by omega)).1, by have := (hB 0 (by omega)).2; omega⟩
  · exact ⟨H.1, H.2.1, H.2.2.1, H.2.2.2.2.1⟩
  intro i σ hi ⟨h1, h2, h3, h4, h5, h6⟩
  have hBi1 := hB (i + 1) (by omega)
  have e4 := h4 (i + 1) (by omega)
  have eF : fX10_scalarOf_154 i σ = zW (zW σ 15 (i + 1) (s.1 15 (i + 1) + zsr (σ.1 15 i) 16)) 15 i (σ.1 15 i &&& 65535) := by
    show zW (zW σ 15 (i + 1) (σ.1 15 (i + 1) + zsr (σ.1 15 i) 16)) 15 i (((zW σ 15 (i + 1) (σ.1 15 (i + 1) + zsr (σ.1 15 i) 16)).1 15 i) &&& 65535) = _
    rw [zW_at, pk_uLn (show i ≠ i + 1 by omega), e4]
  have hr := mq_r16 (σ.1 15 i)
  have hm := mq_m16 (σ.1 15 i)
  have hs : (s.1 15 (i + 1) + zsr (σ.1 15 i) 16).toInt = (s.1 15 (i + 1)).toInt + (σ.1 15 i).toInt / 65536 := by
    rw [mq_addL (by omega) (by omega), hr]
  rw [eF]
  have eu : (zW (zW σ 15 (i + 1) (s.1 15 (i + 1) + zsr (σ.1 15 i) 16)) 15 i (σ.1 15 i &&& 65535)).1 15 = vp_updL (vp_updL (σ.1 15) (i + 1) (s.1 15 (i + 1) + zsr (σ.1 15 i) 16)) i (σ.1 15 i &&& 65535) := by rw [zW_at, zW_at]
  refine ⟨fun id hid => ?_, ?_, ?_, ?_, ?_⟩
  · rw [zW_ne _ _ _ hid, zW_ne _ _ _ hid]
    exact h1 id hid
  · rw [eu, rv_upd (show i < 40 by omega), rv_upd (show i + 1 < 40 by omega), pk_uLn (show i ≠ i + 1 by omega), hs, hm, h2, e4]
    have e2 : (2 : Int) ^ (16 * (i + 1)) = 65536 * 2 ^ (16 * i) := zpw 16 i
    have e3 : (σ.1 15 i).toInt % 65536 - (σ.1 15 i).toInt = -(65536 * ((σ.1 15 i).toInt / 65536)) := by omega
    have e5 : (s.1 15 (i + 1)).toInt + (σ.1 15 i).toInt / 65536 - (s.1 15 (i + 1)).toInt = (σ.1 15 i).toInt / 65536 := by omega
    rw [e2, e3, e5]
    have : ∀ (A q P : Int), A + q * (65536 * P) + -(65536 * q) * P = A := by intros; grind
    exact this _ _ _
  · intro j hj
    rw [eu]
    by_cases e : j = i
    · rw [e, pk_uLs, hm]
      omega
    · rw [pk_uLn e, pk_uLn (by omega)]
      exact h3 j (by omega)
  · intro j hj
    rw [eu, pk_uLn (by omega), pk_uLn (by omega)]
    exact h4 j (by omega)
  · rw [eu, pk_uLn (show i + 1 ≠ i by omega), pk_uLs, hs]
    omega
/-- limbs that stand above what the number needs are 0 -/
theorem up_0 {f : Nat → Int64} {G : Nat} (h : ∀ j, j < 39 → 0 ≤ (f j).toInt ∧ (f j).toInt < 65536) (h9 : 0 ≤ (f 39).toInt) (hG : rv 16 f 40 = (G : Int)) (hlt : G < 2 ^ 544) : rv 16 f 34 = (G : Int) := by
  have e := rv_split 16 f 34 6
  have h1 : 0 ≤ rv 16 (fun i => f (34 + i)) 6 := (rv_nn (w := 16) (r := fun i => f (34 + i)) (n := 6) (fun i hi => by
    by_cases q : i = 5
    · rw [q]; exact h9
    · exact (h (34 + i) (by omega)).1)).1
  have h2 : 0 ≤ rv 16 f 34 := (rv_nn (w := 16) (r := f) (n := 34) (fun i hi => (h i (by omega)).1)).1
  rw [show (34 + 6 : Nat) = 40 from rfl, hG] at e
  generalize hX : rv 16 (fun i => f (34 + i)) 6 = X at e h1
  have hP : ((2 ^ 544 : Nat) : Int) = 2 ^ (16 * 34) := Int.natCast_pow 2 (16 * 34)
  rw [← hP] at e
  have hX0 : X = 0 := by
    apply Classical.byContradiction
    intro hne
    have h3 : 1 ≤ X := by omega
    have h4 := Int.mul_le_mul_of_nonneg_left h3 (Int.natCast_nonneg (2 ^ 544))
    have h5 : (G : Int) < ((2 ^ 544 : Nat) : Int) := Int.ofNat_lt.mpr hlt
    generalize ((2 ^ 544 : Nat) : Int) = P at *
    omega
  rw [hX0, Int.mul_zero, Int.add_zero] at e
  exact e.symm
theorem cM_sof {s : zSt} {p a b e : Nat} (hL : w4 s 32 = 7237005577332262213973186563042994240857116359379907606001950938285454250989) :
    (∀ id j, id ≠ 15 → id ≠ 16 → ¬ (id = 4 ∧ p ≤ j ∧ j < p + 4) → (fX10_scalarOf p a b e s).1 id j = s.1 id j) ∧ w4 (fX10_scalarOf p a b e s) p = (w4 s a * w4 s b + w4 s e) % 7237005577332262213973186563042994240857116359379907606001950938285454250989 := by
  have eF : fX10_scalarOf p a b e s = fX10_modulo p (ziter fX10_scalarOf_154 0 39 (ziter (fX10_scalarOf_109 e) 0 16 (ziter (fX10_scalarOf_27 a b) 0 16 (ziter fX10_scalarOf_3 0 40 s)))) := rfl
  rw [eF]
  have f := zmap0 (F := fX10_scalarOf_3) (s0 := s) 15 40 (fun _ => 0) (fun i σ _ _ => rfl)
  generalize ziter fX10_scalarOf_3 0 40 s = t at f ⊢
  obtain ⟨f1, f2⟩ := f
  have fr : ∀ id, id ≠ 15 → t.1 id = s.1 id := fun id h => funext fun j => f1 id j (Or.inl h)
  have ew : ∀ {u : zSt} (q : Nat), (∀ id, id ≠ 15 → u.1 id = s.1 id) → w4 u q = w4 s q := fun {u} q h => w4_keep (fun k hk => by rw [h 4 (by omega)])
  obtain ⟨g1, g2, g3⟩ := sM_outer a b t (ew a fr) (ew b fr) f2
  generalize ziter (fX10_scalarOf_27 a b) 0 16 t = u at g1 g2 g3 ⊢
  have gr' : ∀ id, id ≠ 15 → u.1 id = s.1 id := fun id h => (g1 id h).trans (fr id h)
  have k := zmap0 (F := fX10_scalarOf_109 e) (s0 := u) 15 16 (fun i => u.1 15 i + vX10_limb (u.1 4 (e + i / 4)) (i % 4) u) (fun i σ hi hh => by
    show zW σ 15 i (σ.1 15 i + vX10_limb (σ.1 4 (e + i / 4)) (i % 4) σ) = _
    rw [hh 15 i (by omega), hh 4 (e + i / 4) (by omega)]
    rfl)
  generalize ziter (fX10_scalarOf_109 e) 0 16 u = v at k ⊢
  obtain ⟨k1, k2⟩ := k
  have kr : ∀ id, id ≠ 15 → v.1 id = s.1 id := fun id h => (funext fun j => k1 id j (Or.inl h) : v.1 id = u.1 id).trans (gr' id h)
  have kv : ∀ i, i < 16 → (v.1 15 i).toInt = (u.1 15 i).toInt + lbv (w4 s e) i := fun i hi => by
    have e1 : (vX10_limb (u.1 4 (e + i / 4)) (i % 4) u).toInt = lbv (w4 s e) i := by
      rw [limb_v e i hi, ew e gr']
      rfl
    have e2 := g3 i (by omega)
    have e3 := lbv_r (w4 s e) i
    rw [k2 i hi, mq_addL (by omega) (by omega), e1]
  have kb : ∀ i, i < 40 → 0 ≤ (v.1 15 i).toInt ∧ (v.1 15 i).toInt ≤ 1099511627776 := fun i hi => by
    have e2 := g3 i hi
    by_cases q : i < 16
    · have e3 := lbv_r (w4 s e) i
      rw [kv i q]
      omega
    · rw [k1 15 i (by omega)]
      omega
  have kV : rv 16 (v.1 15) 40 = rv 16 (u.1 15) 40 + zvl 16 (lbv (w4 s e)) 16 := by
    have e1 : ∀ n, n ≤ 16 → rv 16 (v.1 15) n = rv 16 (u.1 15) n + zvl 16 (lbv (w4 s e)) n := fun n => by
      induction n with
      | zero => intro _; rfl
      | succ n ih =>
        intro hn
        rw [rv_succ, rv_succ, zvl_s, ih (by omega), kv n (by omega)]
        have : ∀ (A B C D P : Int), A + B + (C + D) * P = A + C * P + (B + D * P) := by intros; grind
        exact this _ _ _ _ _
    have e2 := rv_split 16 (v.1 15) 16 24
    have e3 := rv_split 16 (u.1 15) 16 24
    have e4 : rv 16 (fun i => v.1 15 (16 + i)) 24 = rv 16 (fun i => u.1 15 (16 + i)) 24 := rv_congr (fun i hi => k1 15 (16 + i) (by omega))
    rw [show (16 + 24 : Nat) = 40 from rfl] at e2 e3
    rw [e2, e3, e1 16 (Nat.le_refl _), e4]
    generalize (2 : Int) ^ (16 * 16) * rv 16 (fun i => u.1 15 (16 + i)) 24 = X
    omega
  obtain ⟨c1, c2, c3, c4⟩ := sM_chain v kb
  generalize ziter fX10_scalarOf_154 0 39 v = z at c1 c2 c3 c4 ⊢
  have zr : ∀ id, id ≠ 15 → z.1 id = s.1 id := fun id h => (c1 id h).trans (kr id h)
  have hlt : ∀ q, w4 s q < 2 ^ 256 := fun q => rN_lt _ 4
  have hV : rv 16 (z.1 15) 40 = ((w4 s a * w4 s b + w4 s e : Nat) : Int) := by
    rw [c2, kV, g2, lbv_16 (hlt a), lbv_16 (hlt b), lbv_16 (hlt e), Int.natCast_add, Int.natCast_mul]
  have hbig : w4 s a * w4 s b + w4 s e < 2 ^ 544 := by
    have h1 : w4 s a * w4 s b ≤ 2 ^ 256 * 2 ^ 256 := Nat.mul_le_mul (Nat.le_of_lt (hlt a)) (Nat.le_of_lt (hlt b))
    have h2 := hlt e
    have h3 : 2 ^ 256 * 2 ^ 256 + 2 ^ 256 < 2 ^ 544 := by decide +kernel
    exact Nat.lt_of_le_of_lt (Nat.add_le_add h1 (Nat.le_of_lt h2)) h3
  obtain ⟨m1, m2⟩ := cM_modulo (p := p) (by rw [ew 32 zr]; exact hL) (fun i hi => c3 i (by omega)) (up_0 c3 c4 hV hbig)
  exact ⟨fun id j n1 n2 n3 => by rw [m1 id j n2 n3, zr id n1], m2⟩
