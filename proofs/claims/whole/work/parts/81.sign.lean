/-! signatures: made, judged -/
def sgX (ws oR oS T : Nat) (s : zSt) : zSt := fX4_multiplyAndAdd 184 181 183 oS (fX4_reduce 180 8 512 184 (fX5_finish 180 (64 + T) (fX5_takeText 64 T (fX5_takeRow 185 32 (fX5_takeRow oR 0 (fX5_begin (fX0_write 196 oR (fX0_multiply 183 67 196 (fX4_reduce 180 8 512 183 (fX5_finish 180 (32 + T) (fX5_takeText 32 T (fX5_takeRow 182 0 (fX5_begin (fX0_write 196 185 (fX0_multiply 181 67 196 (fX6_unfold ws s))))))))))))))))
theorem sgX_eq (ws oR oS T : Nat) (s : zSt) : fX6_makeSignature ws oR oS T s = sgX ws oR oS T s := by
  unfold fX6_makeSignature fX6_findChallenge sgX
  rfl
def sgM (v T : Nat) (t : zSt) : zSt := fX10_scalarOf 12 8 20 40 (fX10_digestScalar 8 (fX10_digests (64 + T) (fX10_tellText 64 T (fX10_tellWords 28 32 (fX10_tellWords 44 0 (fX10_bytes 44 18 (fX10_many 18 5 40 (fX10_digestScalar 40 (fX10_digests (32 + T) (fX10_tellText 32 T (fX10_tellWords 48 0 (fX10_open_ v t))))))))))))
theorem sig_rel {s t : zSt} {ws v oR oS T : Nat} (hw : rN (s.1 ws) 4 = slM t v) (hX : CX s) (hM : CM t) (hk : HK s t) (hT : TR T s t) (hT4 : T ≤ 400) (h1 : 10 < oR ∧ oR < 36) (h2 : 10 < oS ∧ oS < 36) (h12 : oR ≠ oS) :
    rN ((sgX ws oR oS T s).1 oR) 4 = w4 (sgM v T t) 44 ∧ rN ((sgX ws oR oS T s).1 oS) 4 = w4 (sgM v T t) 12 ∧ (∀ id, (id < 40 ∨ (66 < id ∧ id < 75)) → id ≠ oR → id ≠ oS → (sgX ws oR oS T s).1 id = s.1 id) ∧ (∀ id, id ≠ 176 → (sgX ws oR oS T s).2.1 id = s.2.1 id) ∧ (∀ k, k ≠ 5 → (sgX ws oR oS T s).2.2 k = s.2.2 k) ∧ KM t (sgM v T t) ∧ (sgM v T t).2.2 5 = nI 0 := by
  have eX : sgX ws oR oS T s = fX4_multiplyAndAdd 184 181 183 oS (fX4_reduce 180 8 512 184 (fX5_finish 180 (64 + T) (fX5_takeText 64 T (fX5_takeRow 185 32 (fX5_takeRow oR 0 (fX5_begin (fX0_write 196 oR (fX0_multiply 183 67 196 (fX4_reduce 180 8 512 183 (fX5_finish 180 (32 + T) (fX5_takeText 32 T (fX5_takeRow 182 0 (fX5_begin (fX0_write 196 185 (fX0_multiply 181 67 196 (fX6_unfold ws s)))))))))))))))) := rfl
  have eY : sgM v T t = fX10_scalarOf 12 8 20 40 (fX10_digestScalar 8 (fX10_digests (64 + T) (fX10_tellText 64 T (fX10_tellWords 28 32 (fX10_tellWords 44 0 (fX10_bytes 44 18 (fX10_many 18 5 40 (fX10_digestScalar 40 (fX10_digests (32 + T) (fX10_tellText 32 T (fX10_tellWords 48 0 (fX10_open_ v t)))))))))))) := rfl
  obtain ⟨K, N, u1, u2, u3, u4, u5, u6, u7, u8, ⟨u9, u9a, u9b, u9c⟩, u10⟩ := unf_rel hw hX hM hk
  generalize fX6_unfold ws s = x0 at u1 u2 u3 u4 u5 eX
  generalize fX10_open_ v t = y0 at u6 u7 u8 u9 u9a u9b u9c u10 eY
  have kx0 : keepX s x0 := fun id q => u3 id (by omega) (by omega) (by omega) (by omega) (by omega)
  obtain ⟨b1, b2, b3⟩ := bm_X (ks := 181) (out := 185) (CX_keep hX kx0) (by omega) (by omega)
  rw [u1] at b1
  have eA := Int.ofNat_inj.mp (b1.trans u8.symm)
  clear b1 u8
  generalize fX0_write 196 185 (fX0_multiply 181 67 196 x0) = x1 at eA b2 b3 eX
  have kx1 : keepX s x1 := kx0.trans (fun id q => b2 id (by omega) (by omega) (by omega) (by omega) (by omega) (by omega) (by omega))
  obtain ⟨c1, c2, c3⟩ := ms_1 (s := x1) (t := y0) (ws := 182) (p := 48) (T := T) (by rw [b2 182 (by omega) (by omega) (by omega) (by omega) (by omega) (by omega) (by omega), u2, u7]) (TR_keep hT (by rw [z2_B b3 36, u4 36 (by omega)]) (u9b 1 (by omega) (by omega)))
  generalize fX5_takeText 32 T (fX5_takeRow 182 0 (fX5_begin x1)) = x2 at c1 c2 eX
  generalize fX10_tellText 32 T (fX10_tellWords 48 0 y0) = y2 at c1 c3 eY
  have kx2 : keepX s x2 := kx1.trans (fun id q => by rw [c2.1])
  have ky2 : keepM t y2 := u9.trans ⟨fun j q => by rw [c3.1], fun j q q2 => by rw [c3.1], by rw [c3.1], by rw [c3.1]⟩
  obtain ⟨d1, d2, d3, d4, d5, d6, d7, d8⟩ := hs_rel (o := 183) (p := 40) c1 (by omega) (HK_keep hk kx2 ky2) (CX_keep hX kx2).2.1 (CM_keep hM ky2).1.2.2.2.2.2.2 (Or.inl rfl) (by omega)
  generalize fX4_reduce 180 8 512 183 (fX5_finish 180 (32 + T) x2) = x3 at d1 d2 d3 d4 eX
  generalize fX10_digestScalar 40 (fX10_digests (32 + T) y2) = y3 at d1 d5 d6 d7 d8 eY
  have kx3 : keepX s x3 := kx2.trans (fun id q => d2 id (by omega) (by omega) (by omega) (by omega))
  have ky3 : keepM t y3 := ky2.trans ⟨fun j q => d5 2 j (by omega) (by omega) (by omega) (by omega) (by omega) (by omega), fun j q q2 => d5 4 j (by omega) (by omega) (by omega) (by omega) (by omega) (by omega), funext fun j => d5 5 j (by omega) (by omega) (by omega) (by omega) (by omega) (by omega), funext fun j => d5 6 j (by omega) (by omega) (by omega) (by omega) (by omega) (by omega)⟩
  obtain ⟨e1, e2, e3⟩ := bm_X (ks := 183) (out := oR) (CX_keep hX kx3) (by omega) (by omega)
  obtain ⟨f1, f2, f3⟩ := bm_M (e := 40) (p := 44) (CM_keep hM ky3) (by omega) (by omega)
  rw [d1] at e1
  have eR := Int.ofNat_inj.mp (e1.trans f1.symm)
  clear e1 f1
  generalize fX0_write 196 oR (fX0_multiply 183 67 196 x3) = x4 at eR e2 e3 eX
  generalize fX10_bytes 44 18 (fX10_many 18 5 40 y3) = y4 at eR f2 f3 eY
  have kx4 : keepX s x4 := kx3.trans (fun id q => e2 id (by omega) (by omega) (by omega) (by omega) (by omega) (by omega) (by omega))
  have ky4 : keepM t y4 := ky3.trans ⟨fun j q => f2 2 j (by omega) (by omega) (by omega) (by omega) (by omega) (by omega) (by omega), fun j q q2 => f2 4 j (by omega) (by omega) (by omega) (by omega) (by omega) (by omega) (by omega), funext fun j => f2 5 j (by omega) (by omega) (by omega) (by omega) (by omega) (by omega) (by omega), funext fun j => f2 6 j (by omega) (by omega) (by omega) (by omega) (by omega) (by omega) (by omega)⟩
  have wy4 : ∀ q, ¬ (q < 4) → ¬ (21 ≤ q ∧ q < 28) → ¬ (37 ≤ q ∧ q < 48) → w4 y4 q = w4 y0 q := fun q q1 q2 q3 => w4_keep (fun j hj => by rw [f2 4 (q + j) (by omega) (by omega) (by omega) (by omega) (by omega) (by omega) (by omega), d5 4 (q + j) (by omega) (by omega) (by omega) (by omega) (by omega) (by omega), c3.1])
  have wx4 : ∀ id, id = 181 ∨ id = 185 → x4.1 id = x1.1 id := fun id q => by rw [e2 id (by omega) (by omega) (by omega) (by omega) (by omega) (by omega) (by omega), d2 id (by omega) (by omega) (by omega) (by omega), c2.1]
  have t4 : TR T x4 y4 := TR_keep hT (by rw [z2_B e3 36, d3 36 (by omega), c2.2.1 36 (by omega), z2_B b3 36, u4 36 (by omega)]) (by rw [z2_B f3 1, d6 1 (by omega) (by omega), c3.2.1 1 (by omega), u9b 1 (by omega) (by omega)])
  obtain ⟨g1, g2, g3⟩ := ms_2 (s := x4) (t := y4) (w1 := oR) (w2 := 185) (p1 := 44) (p2 := 28) eR (by rw [wx4 185 (Or.inr rfl), wy4 28 (by omega) (by omega) (by omega)]; exact eA) t4
  generalize fX5_takeText 64 T (fX5_takeRow 185 32 (fX5_takeRow oR 0 (fX5_begin x4))) = x5 at g1 g2 eX
  generalize fX10_tellText 64 T (fX10_tellWords 28 32 (fX10_tellWords 44 0 y4)) = y5 at g1 g3 eY
  have kx5 : keepX s x5 := kx4.trans (fun id q => by rw [g2.1])
  have ky5 : keepM t y5 := ky4.trans ⟨fun j q => by rw [g3.1], fun j q q2 => by rw [g3.1], by rw [g3.1], by rw [g3.1]⟩
  obtain ⟨i1, i2, i3, i4, i5, i6, i7, i8⟩ := hs_rel (o := 184) (p := 8) g1 (by omega) (HK_keep hk kx5 ky5) (CX_keep hX kx5).2.1 (CM_keep hM ky5).1.2.2.2.2.2.2 (Or.inr rfl) (by omega)
  generalize fX4_reduce 180 8 512 184 (fX5_finish 180 (64 + T) x5) = x6 at i1 i2 i3 i4 eX
  generalize fX10_digestScalar 8 (fX10_digests (64 + T) y5) = y6 at i1 i5 i6 i7 i8 eY
  have kx6 : keepX s x6 := kx5.trans (fun id q => i2 id (by omega) (by omega) (by omega) (by omega))
  have ky6 : keepM t y6 := ky5.trans ⟨fun j q => i5 2 j (by omega) (by omega) (by omega) (by omega) (by omega) (by omega), fun j q q2 => i5 4 j (by omega) (by omega) (by omega) (by omega) (by omega) (by omega), funext fun j => i5 5 j (by omega) (by omega) (by omega) (by omega) (by omega) (by omega), funext fun j => i5 6 j (by omega) (by omega) (by omega) (by omega) (by omega) (by omega)⟩
  obtain ⟨m1, m2⟩ := sX_mad (a := 184) (b := 181) (e := 183) (out := oS) (CX_keep hX kx6).2.1 (by omega) (by omega) (by omega)
  have m3 := k2_fX4_multiplyAndAdd 184 181 183 oS x6
  obtain ⟨n1, n2⟩ := cM_sof (p := 12) (a := 8) (b := 20) (e := 40) (CM_keep hM ky6).1.2.2.2.2.2.2
  have n3 := k2_fX10_scalarOf 12 8 20 40 y6
  have r181 : rN (x6.1 181) 4 = w4 y6 20 := by
    rw [i2 181 (by omega) (by omega) (by omega) (by omega), g2.1, wx4 181 (Or.inl rfl), b2 181 (by omega) (by omega) (by omega) (by omega) (by omega) (by omega) (by omega), u1, w4_keep (t := y6) (s := y4) (fun j hj => by rw [i5 4 (20 + j) (by omega) (by omega) (by omega) (by omega) (by omega) (by omega), g3.1]), wy4 20 (by omega) (by omega) (by omega), u6]
  have r183 : rN (x6.1 183) 4 = w4 y6 40 := by
    rw [i2 183 (by omega) (by omega) (by omega) (by omega), g2.1, e2 183 (by omega) (by omega) (by omega) (by omega) (by omega) (by omega) (by omega), d1]
    exact (w4_keep (t := y6) (s := y3) (fun j hj => by rw [i5 4 (40 + j) (by omega) (by omega) (by omega) (by omega) (by omega) (by omega), g3.1, f2 4 (40 + j) (by omega) (by omega) (by omega) (by omega) (by omega) (by omega) (by omega)])).symm
  rw [i1, r181, r183, ← n2] at m2
  clear n2 i1 r181 r183 d1 u1 u2 u6 u7 eA
  generalize fX4_multiplyAndAdd 184 181 183 oS x6 = x7 at m1 m2 m3 eX
  generalize fX10_scalarOf 12 8 20 40 y6 = y7 at n1 m2 n3 eY
  have ky7 : keepM t y7 := ky6.trans ⟨fun j q => n1 2 j (by omega) (by omega) (by omega), fun j q q2 => n1 4 j (by omega) (by omega) (by omega), funext fun j => n1 5 j (by omega) (by omega) (by omega), funext fun j => n1 6 j (by omega) (by omega) (by omega)⟩
  rw [eX, eY]
  clear eX eY
  refine ⟨?_, m2, fun id q q1 q2 => ?_, fun id q => ?_, fun k q => ?_, ⟨ky7, ?_, fun id q1 q2 => ?_, fun k q => ?_⟩, ?_⟩
  · rw [m1 oR (by omega) (by omega) (by omega) h12, i2 oR (by omega) (by omega) (by omega) (by omega), g2.1, eR]
    exact (w4_keep (t := y7) (s := y4) (fun j hj => by rw [n1 4 (44 + j) (by omega) (by omega) (by omega), i5 4 (44 + j) (by omega) (by omega) (by omega) (by omega) (by omega) (by omega), g3.1])).symm
  · rw [m1 id (by omega) (by omega) (by omega) q2, i2 id (by omega) (by omega) (by omega) (by omega), g2.1, e2 id (by omega) (by omega) (by omega) (by omega) (by omega) (by omega) q1, d2 id (by omega) (by omega) (by omega) (by omega), c2.1, b2 id (by omega) (by omega) (by omega) (by omega) (by omega) (by omega) (by omega), u3 id (by omega) (by omega) (by omega) (by omega) (by omega)]
  · rw [z2_B m3 id, i3 id q, g2.2.1 id q, z2_B e3 id, d3 id q, c2.2.1 id q, z2_B b3 id, u4 id q]
  · rw [z2_I m3 k, i4 k q, g2.2.2 k q, z2_I e3 k, d4 k q, c2.2.2 k q, z2_I b3 k, u5 k q]
  · exact funext fun j => by rw [n1 0 j (by omega) (by omega) (by omega), i5 0 j (by omega) (by omega) (by omega) (by omega) (by omega) (by omega), g3.1, f2 0 j (by omega) (by omega) (by omega) (by omega) (by omega) (by omega) (by omega), d5 0 j (by omega) (by omega) (by omega) (by omega) (by omega) (by omega), c3.1, u9a]
  · rw [z2_B n3 id, i6 id q1 q2, g3.2.1 id q1, z2_B f3 id, d6 id q1 q2, c3.2.1 id q1, u9b id q1 q2]
  · rw [z2_I n3 k, i7 k q, g3.2.2 k q, z2_I f3 k, d7 k q, c3.2.2 k q, u9c k q]
  · rw [z2_I n3 5, i8]
/-- the cofactor -/
def d2 (A : Int × Int) : Int × Int := ea A A
theorem d2_oc {A : Int × Int} (h : oc A) : oc (d2 A) := ea_oc h h
theorem d2_pe {A B : Int × Int} (h : pe A B) : pe (d2 A) (d2 B) := pe_ea h h
theorem d2_ea {A B : Int × Int} (hA : oc A) (hB : oc B) : pe (d2 (ea A B)) (ea (d2 A) (d2 B)) := ea_four hA hB hA hB
theorem en_pe {A B : Int × Int} (h : pe A B) : pe (en A) (en B) := ⟨zc_neg h.1, h.2⟩
theorem en_ea (A B : Int × Int) : en (ea A B) = ea (en A) (en B) := by
  have hd : dl (en A) (en B) = dl A B := by
    show cd*(-A.1)*(-B.1)*A.2*B.2 = cd*A.1*B.1*A.2*B.2
    generalize cd = d
    grind
  unfold ea
  rw [hd]
  show (-((A.1*B.2 + A.2*B.1) * iv (1 + dl A B)), (A.2*B.2 + A.1*B.1) * iv (1 - dl A B)) = ((-A.1*B.2 + A.2*(-B.1)) * iv (1 + dl A B), (A.2*B.2 + -A.1*(-B.1)) * iv (1 - dl A B))
  generalize iv (1 + dl A B) = x
  generalize iv (1 - dl A B) = y
  have e1 : -((A.1*B.2 + A.2*B.1) * x) = (-A.1*B.2 + A.2*(-B.1)) * x := by grind
  have e2 : (A.2*B.2 + A.1*B.1) * y = (A.2*B.2 + -A.1*(-B.1)) * y := by grind
  rw [e1, e2]
theorem isn_pe {A B : Int × Int} (h : pe A B) : isn A = isn B := by
  unfold isn
  rw [zc_emod h.1, zc_emod (zc_sub h.2 (zc_refl 1))]
theorem cof {X Y : Int × Int} (hX : oc X) (hY : oc Y) : pe (d2 (d2 (d2 (ea X (en Y))))) (ea (d2 (d2 (d2 X))) (en (d2 (d2 (d2 Y))))) := by
  have nY := oc_n hY
  have e1 := d2_ea hX nY
  have e2 := pe_trans (d2_pe e1) (d2_ea (d2_oc hX) (d2_oc nY))
  have e3 := pe_trans (d2_pe e2) (d2_ea (d2_oc (d2_oc hX)) (d2_oc (d2_oc nY)))
  have e4 : d2 (d2 (d2 (en Y))) = en (d2 (d2 (d2 Y))) := by
    unfold d2
    rw [en_ea, en_ea, en_ea]
  rw [e4] at e3
  exact e3
