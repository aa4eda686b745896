/-! calls on both sides: share -/
theorem k2_lsM (z : zSt) : zk2 (lsM z) = zk2 z := by
  unfold lsM
  (try dsimp only)
  simp only [k2_fX10_add, k2_fX10_subtract, k2_fX10_multiply]
theorem k2_sh (j : Nat) (z : zSt) : zk2 (fX10_share_108 j z) = zk2 z := by
  by_cases h : vX10_bit 20 j z = 1
  · rw [sh_1 h, k2_fX10_swap, k2_fX10_swap, k2_lsM, k2_fX10_swap, k2_fX10_swap]
  · rw [sh_0 h, k2_lsM]
theorem k2_shs (n : Nat) (z : zSt) : zk2 (zdown fX10_share_108 n z) = zk2 z := zdown_keep (fun z => zk2 z) fX10_share_108 k2_sh n z
def shI (t : zSt) : zSt := fX10_put 44 121665 (fX10_put 39 1 (fX10_copyOf 38 40 (fX10_put 37 0 (fX10_put 36 1 t))))
theorem shI_v {t : zSt} {U : Int} (m : mf t 40 U 1) : (∀ id j, ¬ (id = 2 ∧ 576 ≤ j) → (shI t).1 id j = t.1 id j) ∧ zk2 (shI t) = zk2 t ∧ mf (shI t) 36 1 1 ∧ mf (shI t) 37 0 1 ∧ mf (shI t) 38 U 1 ∧ mf (shI t) 39 1 1 ∧ mf (shI t) 40 U 1 ∧ mf (shI t) 44 121665 1 := by
  have eF : shI t = fX10_put 44 121665 (fX10_put 39 1 (fX10_copyOf 38 40 (fX10_put 37 0 (fX10_put 36 1 t)))) := rfl
  obtain ⟨a1, a2⟩ := cM_put (s := t) (r := 36) (v := 1) (by decide) (by decide)
  rw [show (1 : Int64).toInt = 1 from by decide] at a2
  have m1 := mf_row (t := fX10_put 36 1 t) m (fun j hj => a1 2 (16 * 40 + j) (by omega))
  have a3 := k2_fX10_put 36 1 t
  generalize fX10_put 36 1 t = t1 at a1 a2 a3 m1 eF
  obtain ⟨b1, b2⟩ := cM_put (s := t1) (r := 37) (v := 0) (by decide) (by decide)
  rw [show (0 : Int64).toInt = 0 from by decide] at b2
  have m2 := mf_row (t := fX10_put 37 0 t1) m1 (fun j hj => b1 2 (16 * 40 + j) (by omega))
  have b4 := mf_row (t := fX10_put 37 0 t1) a2 (fun j hj => b1 2 (16 * 36 + j) (by omega))
  have b3 := k2_fX10_put 37 0 t1
  generalize fX10_put 37 0 t1 = t2 at b1 b2 b3 b4 m2 eF
  obtain ⟨c1, c2⟩ := cM_copy (r := 38) m2
  have m3 := mf_row (t := fX10_copyOf 38 40 t2) m2 (fun j hj => c1 2 (16 * 40 + j) (by omega))
  have c4 := mf_row (t := fX10_copyOf 38 40 t2) b4 (fun j hj => c1 2 (16 * 36 + j) (by omega))
  have c5 := mf_row (t := fX10_copyOf 38 40 t2) b2 (fun j hj => c1 2 (16 * 37 + j) (by omega))
  have c3 := k2_fX10_copyOf 38 40 t2
  generalize fX10_copyOf 38 40 t2 = t3 at c1 c2 c3 c4 c5 m3 eF
  obtain ⟨d1, d2'⟩ := cM_put (s := t3) (r := 39) (v := 1) (by decide) (by decide)
  rw [show (1 : Int64).toInt = 1 from by decide] at d2'
  have m4 := mf_row (t := fX10_put 39 1 t3) m3 (fun j hj => d1 2 (16 * 40 + j) (by omega))
  have d4 := mf_row (t := fX10_put 39 1 t3) c4 (fun j hj => d1 2 (16 * 36 + j) (by omega))
  have d5 := mf_row (t := fX10_put 39 1 t3) c5 (fun j hj => d1 2 (16 * 37 + j) (by omega))
  have d6 := mf_row (t := fX10_put 39 1 t3) c2 (fun j hj => d1 2 (16 * 38 + j) (by omega))
  have d3 := k2_fX10_put 39 1 t3
  generalize fX10_put 39 1 t3 = t4 at d1 d2' d3 d4 d5 d6 m4 eF
  obtain ⟨e1, e2⟩ := cM_put (s := t4) (r := 44) (v := 121665) (by decide) (by decide)
  rw [show (121665 : Int64).toInt = 121665 from by decide] at e2
  have e3 := k2_fX10_put 44 121665 t4
  rw [eF]
  exact ⟨fun id j q => by rw [e1 id j (by omega), d1 id j (by omega), c1 id j (by omega), b1 id j (by omega), a1 id j (by omega)], by rw [e3, d3, c3, b3, a3], mf_row d4 (fun j hj => e1 2 (16 * 36 + j) (by omega)), mf_row d5 (fun j hj => e1 2 (16 * 37 + j) (by omega)), mf_row d6 (fun j hj => e1 2 (16 * 38 + j) (by omega)), mf_row d2' (fun j hj => e1 2 (16 * 39 + j) (by omega)), mf_row m4 (fun j hj => e1 2 (16 * 40 + j) (by omega)), e2⟩
theorem put_shr {T a k u : Nat} {s t : zSt} (h : GI T s t) (ha : a < 24) (hk : k < 24) (hu : u < 24) : ∃ z : Int, GI T (fX1_store 203 (11 + u) (fX2_climb (11 + k) 202 203 (fX1_load (11 + a) 202 s))) (fX10_store u 36 (fX10_multiply 36 36 37 (fX10_invert 37 37 (zdown fX10_share_108 255 (shI (fX10_load 40 a (fX10_clamp 20 (fX10_fromSlot 20 k t))))))))
      ∧ zf (fX1_store 203 (11 + u) (fX2_climb (11 + k) 202 203 (fX1_load (11 + a) 202 s))) 203 z 1 ∧ mf (fX10_store u 36 (fX10_multiply 36 36 37 (fX10_invert 37 37 (zdown fX10_share_108 255 (shI (fX10_load 40 a (fX10_clamp 20 (fX10_fromSlot 20 k t)))))))) 36 z 1 := by
  obtain ⟨f1, f2, f3⟩ := cM_from 20 k t
  generalize fX10_fromSlot 20 k t = t1 at f1 f2 f3 ⊢
  obtain ⟨g1, g2⟩ := cM_clamp 20 t1
  rw [f2] at g2
  have g3 := k2_fX10_clamp 20 t1
  generalize fX10_clamp 20 t1 = t2 at g1 g2 g3 ⊢
  have h1 : GI T s t2 := h.km (fun id j q => by rw [g1 id j (by omega), f1 id j (by omega)]) (g3.trans (by show t1.2 = t.2; rw [f3]))
  have ek : slM t k = slX s k := (h.2.2.2.1 k hk).symm
  rw [ek] at g2
  clear ek f1 f2 f3 g1 g3
  obtain ⟨h2, ⟨x, r2, r3⟩, r4, r5⟩ := ld_fe (P := 202) (r := 40) h1 ha (by omega) (by omega)
  have eK : rN ((fX1_load (11 + a) 202 s).1 (11 + k)) 4 = slX s k := by rw [r4 (11 + k) (by omega)]; rfl
  have g4 : w4 (fX10_load 40 a t2) 20 = clv (slX s k) := by rw [w4_keep (t := fX10_load 40 a t2) (s := t2) (fun j hj => r5 4 (20 + j) (by omega) (by omega)), g2]
  generalize slX s k = K at eK g4
  generalize fX1_load (11 + a) 202 s = s1 at h2 r2 eK ⊢
  generalize fX10_load 40 a t2 = t3 at h2 r3 g4 ⊢
  clear r4 r5
  obtain ⟨a1, a2⟩ := cX_climb (ks := 11 + k) (out := 203) r2 h2.1.1.2.2.2.2.2.2.1 (by omega) (by omega) (by omega)
  rw [eK] at a2
  unfold ldv iv at a2
  have h3 := h2.kx (fun id q => a1 id (by omega) (by omega) (by omega) (by omega)) (k2_fX2_climb (11 + k) 202 203 s1)
  clear a1 eK
  generalize fX2_climb (11 + k) 202 203 s1 = s2 at h3 a2 ⊢
  obtain ⟨b1, b2, b3, b4, b5, b6, b7, b8⟩ := shI_v r3
  have g5 : w4 (shI t3) 20 = clv K := by rw [w4_keep (t := shI t3) (s := t3) (fun j hj => b1 4 (20 + j) (by omega)), g4]
  have h4 := h3.km (fun id j q => b1 id j (by omega)) b2
  generalize shI t3 = t4 at h4 b3 b4 b5 b6 b7 b8 g5 ⊢
  clear b1 b2
  obtain ⟨c1, c2, c3⟩ := cM_ladder b3 b4 b5 b6 b7 b8
  rw [g5] at c2 c3
  have h5 := h4.km (fun id j q => c1 id j (by omega) (by omega) (by omega)) (k2_shs 255 t4)
  clear c1
  generalize zdown fX10_share_108 255 t4 = t5 at h5 c2 c3 ⊢
  generalize (lad x (clv K) 255).1 = P at a2 c2
  generalize (lad x (clv K) 255).2.1 = Q at a2 c3
  obtain ⟨d1, d3⟩ := cM_invert (r := 37) c3 (by omega) (by omega) (by omega)
  have m1 := mf_row (t := fX10_invert 37 37 t5) c2 (fun j hj => d1 2 (16 * 36 + j) (by omega) (by omega) (by omega) (by omega) (by omega))
  have h6 := h5.km (fun id j q => d1 id j (by omega) (by omega) (by omega) (by omega) (by omega)) (k2_fX10_invert 37 37 t5)
  clear d1
  generalize fX10_invert 37 37 t5 = t6 at h6 d3 m1 ⊢
  generalize Q ^ pInv = Z at a2 d3
  obtain ⟨e1, e2⟩ := cM_mul (r := 36) m1 d3 (by omega)
  have h7 := h6.km (fun id j q => e1 id j (by omega) (by omega)) (k2_fX10_multiply 36 36 37 t6)
  clear e1
  generalize fX10_multiply 36 36 37 t6 = t7 at h7 e2 ⊢
  obtain ⟨i1, i2, i3⟩ := put_fe h7 hu a2 e2 (by omega) (by omega)
  exact ⟨P * Z, i1, zf_row a2 (i2 203 (by omega)), mf_row e2 (fun j hj => i3 (16 * 36 + j) (by omega))⟩
theorem sh_X {k a u : Int32} {s s1 s3 : zSt} (e1 : s1 = zI s 0 (s.2.2 0 - nI 1)) (e : s3 = fX1_store 203 (11 + u.toNatClampNeg) (fX2_climb (11 + k.toNatClampNeg) 202 203 (fX1_load (11 + a.toNatClampNeg) 202 s1))) : fX9_share_a5 k a u s = bif zfst (fX1_isZero 203 s3) then fX9_share_a3 (zsnd (fX1_isZero 203 s3)) else fX9_share_a4 (zsnd (fX1_isZero 203 s3)) := by
  unfold fX9_share_a5
  dsimp only
  rw [← e1, ← e]
theorem sh_M {k a u : Int32} {t t1 t3 : zSt} (e1 : t1 = zI t 1 (t.2.2 1 - nI 1)) (e : t3 = fX10_store u.toNatClampNeg 36 (fX10_multiply 36 36 37 (fX10_invert 37 37 (zdown fX10_share_108 255 (shI (fX10_load 40 a.toNatClampNeg (fX10_clamp 20 (fX10_fromSlot 20 k.toNatClampNeg t1)))))))) : fX10_share_a11 k a u t = bif zfst (fX10_isSame 36 0 t3) then fX10_share_a10 (zsnd (fX10_isSame 36 0 t3)) else fX10_share_a9 (zsnd (fX10_isSame 36 0 t3)) := by
  unfold shI at e
  unfold fX10_share_a11
  dsimp only
  rw [← e1, ← e]
theorem c_share {T : Nat} {s t : zSt} (k a u : Int32) (h : GI T s t) : zfst (fX9_share k a u s) = zfst (fX10_share k a u t) ∧ GI T (zsnd (fX9_share k a u s)) (zsnd (fX10_share k a u t)) := by
  unfold fX9_share fX10_share
  rw [is_sl k s t]
  cases e : vX10_isSlot k t with
  | false => rw [cond_false, cond_false]; exact ⟨rfl, h⟩
  | true =>
    rw [cond_true, cond_true]
    unfold fX9_share_a10 fX10_share_a16
    rw [is_sl a s t]
    cases e1 : vX10_isSlot a t with
    | false => rw [cond_false, cond_false]; exact ⟨rfl, h⟩
    | true =>
      rw [cond_true, cond_true]
      unfold fX9_share_a9 fX10_share_a15
      rw [is_sl u s t]
      cases e2 : vX10_isSlot u t with
      | false => rw [cond_false, cond_false]; exact ⟨rfl, h⟩
      | true =>
        rw [cond_true, cond_true]
        unfold fX9_share_a7 fX10_share_a13
        have en := h.nm 0 (by omega)
        by_cases q : nI 1 ≤ t.2.2 1
        · rw [if_pos (en ▸ q), if_pos q, sh_X rfl rfl, sh_M rfl rfl]
          have h1 := h.sub0 (nI 1)
          generalize zI s 0 (s.2.2 0 - nI 1) = s1 at h1 ⊢
          generalize zI t 1 (t.2.2 1 - nI 1) = t1 at h1 ⊢
          obtain ⟨z, h2, x2, m2⟩ := put_shr h1 (msl_of e1).2 (msl_of e).2 (msl_of e2).2
          generalize fX1_store 203 (11 + u.toNatClampNeg) (fX2_climb (11 + k.toNatClampNeg) 202 203 (fX1_load (11 + a.toNatClampNeg) 202 s1)) = s2 at h2 x2 ⊢
          generalize fX10_store u.toNatClampNeg 36 (fX10_multiply 36 36 37 (fX10_invert 37 37 (zdown fX10_share_108 255 (shI (fX10_load 40 a.toNatClampNeg (fX10_clamp 20 (fX10_fromSlot 20 k.toNatClampNeg t1))))))) = t2 at h2 m2 ⊢
          obtain ⟨i1, i2⟩ := cX_isZero x2 (by omega)
          obtain ⟨j1, j2⟩ := cM_isSame m2 h2.2.1.1.1 (by omega) (by omega) (by omega)
          rw [Int.sub_zero] at j2
          rw [i2, j2]
          have h3 := (h2.kx (fun id q => i1 id (by omega)) (k2_fX1_isZero 203 s2)).km (fun id j q => j1 id j (by omega) (by omega) (by omega)) (k2_fX10_isSame 36 0 t2)
          clear i1 i2 j1 j2
          generalize zsnd (fX1_isZero 203 s2) = s3 at h3 ⊢
          generalize zsnd (fX10_isSame 36 0 t2) = t3 at h3 ⊢
          generalize decide (z % 57896044618658097711785492504343953926634992332820282019728792003956564819949 = 0) = b
          cases b with
          | true => rw [cond_true, cond_true]; unfold fX9_share_a3 fX10_share_a10; rw [told_f]; simp only [zfst_mk, zsnd_mk]; exact ⟨trivial, h3⟩
          | false => rw [cond_false, cond_false]; unfold fX9_share_a4 fX10_share_a9; rw [told_t]; simp only [zfst_mk, zsnd_mk]; exact ⟨trivial, h3⟩
        · rw [if_neg (en ▸ q), if_neg q]
          exact ⟨rfl, h⟩
