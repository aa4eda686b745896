/-! points of the class and of the reference: (x : y : z : t) with t = x y / z stands for the point A of the curve -/
def rX (s : zSt) (p : Nat) (A : Int × Int) : Prop := oc A ∧ ∃ Z : Int, ¬ zc Z 0 ∧ zf s (p + 0) (A.1 * Z) 1 ∧ zf s (p + 1) (A.2 * Z) 1 ∧ zf s (p + 2) Z 1 ∧ zf s (p + 3) (A.1 * A.2 * Z) 1
def rM (s : zSt) (p : Nat) (A : Int × Int) : Prop := oc A ∧ ∃ Z : Int, ¬ zc Z 0 ∧ mf s p (A.1 * Z) 1 ∧ mf s (p + 1) (A.2 * Z) 1 ∧ mf s (p + 2) Z 1 ∧ mf s (p + 3) (A.1 * A.2 * Z) 1
theorem rX_row {s t : zSt} {p : Nat} {A : Int × Int} (h : rX s p A) (e : ∀ i, i < 4 → t.1 (p + i) = s.1 (p + i)) : rX t p A := by
  obtain ⟨h0, Z, hZ, h1, h2, h3, h4⟩ := h
  exact ⟨h0, Z, hZ, zf_row h1 (e 0 (by omega)), zf_row h2 (e 1 (by omega)), zf_row h3 (e 2 (by omega)), zf_row h4 (e 3 (by omega))⟩
theorem rM_row {s t : zSt} {p : Nat} {A : Int × Int} (h : rM s p A) (e : ∀ j, 16 * p ≤ j → j < 16 * p + 64 → t.1 2 j = s.1 2 j) : rM t p A := by
  obtain ⟨h0, Z, hZ, h1, h2, h3, h4⟩ := h
  exact ⟨h0, Z, hZ, mf_row h1 (fun j hj => e _ (by omega) (by omega)), mf_row h2 (fun j hj => e _ (by omega) (by omega)), mf_row h3 (fun j hj => e _ (by omega) (by omega)), mf_row h4 (fun j hj => e _ (by omega) (by omega))⟩
theorem rX_pe {s : zSt} {p : Nat} {A B : Int × Int} (h : rX s p A) (e : pe A B) : rX s p B := by
  obtain ⟨h0, Z, hZ, h1, h2, h3, h4⟩ := h
  exact ⟨pe_oc e h0, Z, hZ, zf_congr h1 (zc_mulR Z e.1), zf_congr h2 (zc_mulR Z e.2), h3, zf_congr h4 (zc_mulR Z (zc_mul e.1 e.2))⟩
theorem rM_pe {s : zSt} {p : Nat} {A B : Int × Int} (h : rM s p A) (e : pe A B) : rM s p B := by
  obtain ⟨h0, Z, hZ, h1, h2, h3, h4⟩ := h
  exact ⟨pe_oc e h0, Z, hZ, mf_congr h1 (zc_mulR Z e.1), mf_congr h2 (zc_mulR Z e.2), h3, mf_congr h4 (zc_mulR Z (zc_mul e.1 e.2))⟩
/-- the sum's coordinates -/
theorem rg_s1 (x1 y1 x2 y2 Z1 Z2 d : Int) : ((y1*Z1 + x1*Z1)*(y2*Z2 + x2*Z2) - (y1*Z1 - x1*Z1)*(y2*Z2 - x2*Z2)) = 2*(Z1*Z2)*(x1*y2 + y1*x2) := by grind
theorem rg_s2 (x1 y1 x2 y2 Z1 Z2 d : Int) : ((y1*Z1 + x1*Z1)*(y2*Z2 + x2*Z2) + (y1*Z1 - x1*Z1)*(y2*Z2 - x2*Z2)) = 2*(Z1*Z2)*(y1*y2 + x1*x2) := by grind
theorem rg_s3 (x1 y1 x2 y2 Z1 Z2 d : Int) : (Z1*Z2 + Z1*Z2) - x1*y1*Z1*(x2*y2*Z2)*(d + d) = 2*(Z1*Z2)*(1 - d*x1*x2*y1*y2) := by grind
theorem rg_s4 (x1 y1 x2 y2 Z1 Z2 d : Int) : (Z1*Z2 + Z1*Z2) + x1*y1*Z1*(x2*y2*Z2)*(d + d) = 2*(Z1*Z2)*(1 + d*x1*x2*y1*y2) := by grind
theorem rg_s5 (k a D E : Int) : k*(a*D)*(k*E) = a*(k*E*(k*D)) := by grind
theorem rg_s6 (k b D E : Int) : k*D*(k*(b*E)) = b*(k*E*(k*D)) := by grind
theorem rg_s7 (k a b D E : Int) : k*(a*D)*(k*(b*E)) = a*b*(k*E*(k*D)) := by grind
theorem sum_vals {A B : Int × Int} (hA : oc A) (hB : oc B) {k : Int} (hk : ¬ zc k 0) :
    ¬ zc (k*(1 - dl A B)*(k*(1 + dl A B))) 0 ∧ zc (k*(A.1*B.2 + A.2*B.1)*(k*(1 - dl A B))) ((ea A B).1*(k*(1 - dl A B)*(k*(1 + dl A B))))
      ∧ zc (k*(1 + dl A B)*(k*(A.2*B.2 + A.1*B.1))) ((ea A B).2*(k*(1 - dl A B)*(k*(1 + dl A B)))) ∧ zc (k*(A.1*B.2 + A.2*B.1)*(k*(A.2*B.2 + A.1*B.1))) ((ea A B).1*(ea A B).2*(k*(1 - dl A B)*(k*(1 + dl A B)))) := by
  have h1 := ea_1 hA hB
  have h2 := ea_2 hA hB
  have n1 := dl_p hA hB
  have n2 := dl_m hA hB
  refine ⟨zc_mul_ne (zc_mul_ne hk n2) (zc_mul_ne hk n1), ?_, ?_, ?_⟩
  · exact zc_trans (zc_mulR _ (zc_mulL _ (zc_symm h1))) (zc_of (rg_s5 _ _ _ _))
  · exact zc_trans (zc_mulL _ (zc_mulL _ (zc_symm h2))) (zc_of (rg_s6 _ _ _ _))
  · exact zc_trans (zc_mul (zc_mulL _ (zc_symm h1)) (zc_mulL _ (zc_symm h2))) (zc_of (rg_s7 _ _ _ _ _))
theorem cX_padd {s : zSt} {P Q S : Nat} {A B : Int × Int} (hA : rX s P A) (hB : rX s Q B) (hd : zf s 74 (cd + cd) 2) (hP : 60 < P ∧ (P + 3 < 72 ∨ 82 < P)) (hQ : 60 < Q ∧ (Q + 3 < 72 ∨ 82 < Q)) (hS : 60 < S ∧ (S + 3 < 72 ∨ 82 < S)) :
    (∀ id, id ≠ 40 → ¬ (75 ≤ id ∧ id ≤ 81) → ¬ (S ≤ id ∧ id ≤ S + 3) → (fX0_add P Q S s).1 id = s.1 id) ∧ rX (fX0_add P Q S s) S (ea A B) := by
  obtain ⟨oA, Z1, z1, p0, p1, p2, p3⟩ := hA
  obtain ⟨oB, Z2, z2, q0, q1, q2, q3⟩ := hB
  unfold fX0_add
  dsimp only
  obtain ⟨w1, v1⟩ := cX_sub (out := 78) p1 p0 (by omega)
  have f1_0 := zf_row (t := fX1_subtract (P + 1) (P + 0) 78 s) hd (w1 74 (by omega))
  have f1_1 := zf_row (t := fX1_subtract (P + 1) (P + 0) 78 s) p0 (w1 (P + 0) (by omega))
  have f1_2 := zf_row (t := fX1_subtract (P + 1) (P + 0) 78 s) p1 (w1 (P + 1) (by omega))
  have f1_3 := zf_row (t := fX1_subtract (P + 1) (P + 0) 78 s) p2 (w1 (P + 2) (by omega))
  have f1_4 := zf_row (t := fX1_subtract (P + 1) (P + 0) 78 s) p3 (w1 (P + 3) (by omega))
  have f1_5 := zf_row (t := fX1_subtract (P + 1) (P + 0) 78 s) q0 (w1 (Q + 0) (by omega))
  have f1_6 := zf_row (t := fX1_subtract (P + 1) (P + 0) 78 s) q1 (w1 (Q + 1) (by omega))
  have f1_7 := zf_row (t := fX1_subtract (P + 1) (P + 0) 78 s) q2 (w1 (Q + 2) (by omega))
  have f1_8 := zf_row (t := fX1_subtract (P + 1) (P + 0) 78 s) q3 (w1 (Q + 3) (by omega))
  generalize fX1_subtract (P + 1) (P + 0) 78 s = t1 at w1 v1 f1_0 f1_1 f1_2 f1_3 f1_4 f1_5 f1_6 f1_7 f1_8 ⊢
  obtain ⟨w2, v2⟩ := cX_sub (out := 79) f1_6 f1_5 (by omega)
  have f2_0 := zf_row (t := fX1_subtract (Q + 1) (Q + 0) 79 t1) f1_0 (w2 74 (by omega))
  have f2_1 := zf_row (t := fX1_subtract (Q + 1) (Q + 0) 79 t1) v1 (w2 78 (by omega))
  have f2_2 := zf_row (t := fX1_subtract (Q + 1) (Q + 0) 79 t1) f1_1 (w2 (P + 0) (by omega))
  have f2_3 := zf_row (t := fX1_subtract (Q + 1) (Q + 0) 79 t1) f1_2 (w2 (P + 1) (by omega))
  have f2_4 := zf_row (t := fX1_subtract (Q + 1) (Q + 0) 79 t1) f1_3 (w2 (P + 2) (by omega))
  have f2_5 := zf_row (t := fX1_subtract (Q + 1) (Q + 0) 79 t1) f1_4 (w2 (P + 3) (by omega))
  have f2_6 := zf_row (t := fX1_subtract (Q + 1) (Q + 0) 79 t1) f1_5 (w2 (Q + 0) (by omega))
  have f2_7 := zf_row (t := fX1_subtract (Q + 1) (Q + 0) 79 t1) f1_6 (w2 (Q + 1) (by omega))
  have f2_8 := zf_row (t := fX1_subtract (Q + 1) (Q + 0) 79 t1) f1_7 (w2 (Q + 2) (by omega))
  have f2_9 := zf_row (t := fX1_subtract (Q + 1) (Q + 0) 79 t1) f1_8 (w2 (Q + 3) (by omega))
  generalize fX1_subtract (Q + 1) (Q + 0) 79 t1 = t2 at w2 v2 f2_0 f2_1 f2_2 f2_3 f2_4 f2_5 f2_6 f2_7 f2_8 f2_9 ⊢
  obtain ⟨w3, v3⟩ := cX_mul (out := 75) f2_1 v2 (by omega) (by omega) (by omega) (by omega)
  have f3_0 := zf_row (t := fX1_multiply 78 79 75 t2) f2_0 (w3 74 (by omega) (by omega))
  have f3_1 := zf_row (t := fX1_multiply 78 79 75 t2) f2_2 (w3 (P + 0) (by omega) (by omega))
  have f3_2 := zf_row (t := fX1_multiply 78 79 75 t2) f2_3 (w3 (P + 1) (by omega) (by omega))
  have f3_3 := zf_row (t := fX1_multiply 78 79 75 t2) f2_4 (w3 (P + 2) (by omega) (by omega))
  have f3_4 := zf_row (t := fX1_multiply 78 79 75 t2) f2_5 (w3 (P + 3) (by omega) (by omega))
  have f3_5 := zf_row (t := fX1_multiply 78 79 75 t2) f2_6 (w3 (Q + 0) (by omega) (by omega))
  have f3_6 := zf_row (t := fX1_multiply 78 79 75 t2) f2_7 (w3 (Q + 1) (by omega) (by omega))
  have f3_7 := zf_row (t := fX1_multiply 78 79 75 t2) f2_8 (w3 (Q + 2) (by omega) (by omega))
  have f3_8 := zf_row (t := fX1_multiply 78 79 75 t2) f2_9 (w3 (Q + 3) (by omega) (by omega))
  generalize fX1_multiply 78 79 75 t2 = t3 at w3 v3 f3_0 f3_1 f3_2 f3_3 f3_4 f3_5 f3_6 f3_7 f3_8 ⊢
  obtain ⟨w4, v4⟩ := cX_add (out := 78) f3_2 f3_1 (by omega)
  have f4_0 := zf_row (t := fX1_add (P + 1) (P + 0) 78 t3) f3_0 (w4 74 (by omega))
  have f4_1 := zf_row (t := fX1_add (P + 1) (P + 0) 78 t3) v3 (w4 75 (by omega))
  have f4_2 := zf_row (t := fX1_add (P + 1) (P + 0) 78 t3) f3_3 (w4 (P + 2) (by omega))
  have f4_3 := zf_row (t := fX1_add (P + 1) (P + 0) 78 t3) f3_4 (w4 (P + 3) (by omega))
  have f4_4 := zf_row (t := fX1_add (P + 1) (P + 0) 78 t3) f3_5 (w4 (Q + 0) (by omega))
  have f4_5 := zf_row (t := fX1_add (P + 1) (P + 0) 78 t3) f3_6 (w4 (Q + 1) (by omega))
  have f4_6 := zf_row (t := fX1_add (P + 1) (P + 0) 78 t3) f3_7 (w4 (Q + 2) (by omega))
  have f4_7 := zf_row (t := fX1_add (P + 1) (P + 0) 78 t3) f3_8 (w4 (Q + 3) (by omega))
  generalize fX1_add (P + 1) (P + 0) 78 t3 = t4 at w4 v4 f4_0 f4_1 f4_2 f4_3 f4_4 f4_5 f4_6 f4_7 ⊢
  obtain ⟨w5, v5⟩ := cX_add (out := 79) f4_5 f4_4 (by omega)
  have f5_0 := zf_row (t := fX1_add (Q + 1) (Q + 0) 79 t4) f4_0 (w5 74 (by omega))
  have f5_1 := zf_row (t := fX1_add (Q + 1) (Q + 0) 79 t4) f4_1 (w5 75 (by omega))
  have f5_2 := zf_row (t := fX1_add (Q + 1) (Q + 0) 79 t4) v4 (w5 78 (by omega))
  have f5_3 := zf_row (t := fX1_add (Q + 1) (Q + 0) 79 t4) f4_2 (w5 (P + 2) (by omega))
  have f5_4 := zf_row (t := fX1_add (Q + 1) (Q + 0) 79 t4) f4_3 (w5 (P + 3) (by omega))
  have f5_5 := zf_row (t := fX1_add (Q + 1) (Q + 0) 79 t4) f4_6 (w5 (Q + 2) (by omega))
  have f5_6 := zf_row (t := fX1_add (Q + 1) (Q + 0) 79 t4) f4_7 (w5 (Q + 3) (by omega))
  generalize fX1_add (Q + 1) (Q + 0) 79 t4 = t5 at w5 v5 f5_0 f5_1 f5_2 f5_3 f5_4 f5_5 f5_6 ⊢
  obtain ⟨w6, v6⟩ := cX_mul (out := 76) f5_2 v5 (by omega) (by omega) (by omega) (by omega)
  have f6_0 := zf_row (t := fX1_multiply 78 79 76 t5) f5_0 (w6 74 (by omega) (by omega))
  have f6_1 := zf_row (t := fX1_multiply 78 79 76 t5) f5_1 (w6 75 (by omega) (by omega))
  have f6_2 := zf_row (t := fX1_multiply 78 79 76 t5) f5_3 (w6 (P + 2) (by omega) (by omega))
  have f6_3 := zf_row (t := fX1_multiply 78 79 76 t5) f5_4 (w6 (P + 3) (by omega) (by omega))
  have f6_4 := zf_row (t := fX1_multiply 78 79 76 t5) f5_5 (w6 (Q + 2) (by omega) (by omega))
  have f6_5 := zf_row (t := fX1_multiply 78 79 76 t5) f5_6 (w6 (Q + 3) (by omega) (by omega))
  generalize fX1_multiply 78 79 76 t5 = t6 at w6 v6 f6_0 f6_1 f6_2 f6_3 f6_4 f6_5 ⊢
  obtain ⟨w7, v7⟩ := cX_mul (out := 77) f6_3 f6_5 (by omega) (by omega) (by omega) (by omega)
  have f7_0 := zf_row (t := fX1_multiply (P + 3) (Q + 3) 77 t6) f6_0 (w7 74 (by omega) (by omega))
  have f7_1 := zf_row (t := fX1_multiply (P + 3) (Q + 3) 77 t6) f6_1 (w7 75 (by omega) (by omega))
  have f7_2 := zf_row (t := fX1_multiply (P + 3) (Q + 3) 77 t6) v6 (w7 76 (by omega) (by omega))
  have f7_3 := zf_row (t := fX1_multiply (P + 3) (Q + 3) 77 t6) f6_2 (w7 (P + 2) (by omega) (by omega))
  have f7_4 := zf_row (t := fX1_multiply (P + 3) (Q + 3) 77 t6) f6_4 (w7 (Q + 2) (by omega) (by omega))
  generalize fX1_multiply (P + 3) (Q + 3) 77 t6 = t7 at w7 v7 f7_0 f7_1 f7_2 f7_3 f7_4 ⊢
  obtain ⟨w8, v8⟩ := cX_mul (out := 77) v7 f7_0 (by omega) (by omega) (by omega) (by omega)
  have f8_0 := zf_row (t := fX1_multiply 77 74 77 t7) f7_1 (w8 75 (by omega) (by omega))
  have f8_1 := zf_row (t := fX1_multiply 77 74 77 t7) f7_2 (w8 76 (by omega) (by omega))
  have f8_2 := zf_row (t := fX1_multiply 77 74 77 t7) f7_3 (w8 (P + 2) (by omega) (by omega))
  have f8_3 := zf_row (t := fX1_multiply 77 74 77 t7) f7_4 (w8 (Q + 2) (by omega) (by omega))
  generalize fX1_multiply 77 74 77 t7 = t8 at w8 v8 f8_0 f8_1 f8_2 f8_3 ⊢
  obtain ⟨w9, v9⟩ := cX_mul (out := 80) f8_2 f8_3 (by omega) (by omega) (by omega) (by omega)
  have f9_0 := zf_row (t := fX1_multiply (P + 2) (Q + 2) 80 t8) f8_0 (w9 75 (by omega) (by omega))
  have f9_1 := zf_row (t := fX1_multiply (P + 2) (Q + 2) 80 t8) f8_1 (w9 76 (by omega) (by omega))
  have f9_2 := zf_row (t := fX1_multiply (P + 2) (Q + 2) 80 t8) v8 (w9 77 (by omega) (by omega))
  generalize fX1_multiply (P + 2) (Q + 2) 80 t8 = t9 at w9 v9 f9_0 f9_1 f9_2 ⊢
  obtain ⟨w10, v10⟩ := cX_add (out := 80) v9 v9 (by omega)
  have f10_0 := zf_row (t := fX1_add 80 80 80 t9) f9_0 (w10 75 (by omega))
  have f10_1 := zf_row (t := fX1_add 80 80 80 t9) f9_1 (w10 76 (by omega))
  have f10_2 := zf_row (t := fX1_add 80 80 80 t9) f9_2 (w10 77 (by omega))
  generalize fX1_add 80 80 80 t9 = t10 at w10 v10 f10_0 f10_1 f10_2 ⊢
  obtain ⟨w11, v11⟩ := cX_sub (out := 78) f10_1 f10_0 (by omega)
  have f11_0 := zf_row (t := fX1_subtract 76 75 78 t10) f10_0 (w11 75 (by omega))
  have f11_1 := zf_row (t := fX1_subtract 76 75 78 t10) f10_1 (w11 76 (by omega))
  have f11_2 := zf_row (t := fX1_subtract 76 75 78 t10) f10_2 (w11 77 (by omega))
  have f11_3 := zf_row (t := fX1_subtract 76 75 78 t10) v10 (w11 80 (by omega))
  generalize fX1_subtract 76 75 78 t10 = t11 at w11 v11 f11_0 f11_1 f11_2 f11_3 ⊢
  obtain ⟨w12, v12⟩ := cX_add (out := 81) f11_1 f11_0 (by omega)
  have f12_0 := zf_row (t := fX1_add 76 75 81 t11) f11_2 (w12 77 (by omega))
  have f12_1 := zf_row (t := fX1_add 76 75 81 t11) v11 (w12 78 (by omega))
  have f12_2 := zf_row (t := fX1_add 76 75 81 t11) f11_3 (w12 80 (by omega))
  generalize fX1_add 76 75 81 t11 = t12 at w12 v12 f12_0 f12_1 f12_2 ⊢
  obtain ⟨w13, v13⟩ := cX_sub (out := 79) f12_2 f12_0 (by omega)
  have f13_0 := zf_row (t := fX1_subtract 80 77 79 t12) f12_0 (w13 77 (by omega))
  have f13_1 := zf_row (t := fX1_subtract 80 77 79 t12) f12_1 (w13 78 (by omega))
  have f13_2 := zf_row (t := fX1_subtract 80 77 79 t12) f12_2 (w13 80 (by omega))
  have f13_3 := zf_row (t := fX1_subtract 80 77 79 t12) v12 (w13 81 (by omega))
  generalize fX1_subtract 80 77 79 t12 = t13 at w13 v13 f13_0 f13_1 f13_2 f13_3 ⊢
  obtain ⟨w14, v14⟩ := cX_add (out := 80) f13_2 f13_0 (by omega)
  have f14_0 := zf_row (t := fX1_add 80 77 80 t13) f13_1 (w14 78 (by omega))
  have f14_1 := zf_row (t := fX1_add 80 77 80 t13) v13 (w14 79 (by omega))
  have f14_2 := zf_row (t := fX1_add 80 77 80 t13) f13_3 (w14 81 (by omega))
  generalize fX1_add 80 77 80 t13 = t14 at w14 v14 f14_0 f14_1 f14_2 ⊢
  obtain ⟨w15, v15⟩ := cX_mul (out := S + 0) f14_0 f14_1 (by omega) (by omega) (by omega) (by omega)
  have f15_0 := zf_row (t := fX1_multiply 78 79 (S + 0) t14) f14_0 (w15 78 (by omega) (by omega))
  have f15_1 := zf_row (t := fX1_multiply 78 79 (S + 0) t14) f14_1 (w15 79 (by omega) (by omega))
  have f15_2 := zf_row (t := fX1_multiply 78 79 (S + 0) t14) v14 (w15 80 (by omega) (by omega))
  have f15_3 := zf_row (t := fX1_multiply 78 79 (S + 0) t14) f14_2 (w15 81 (by omega) (by omega))
  generalize fX1_multiply 78 79 (S + 0) t14 = t15 at w15 v15 f15_0 f15_1 f15_2 f15_3 ⊢
  obtain ⟨w16, v16⟩ := cX_mul (out := S + 1) f15_2 f15_3 (by omega) (by omega) (by omega) (by omega)
  have f16_0 := zf_row (t := fX1_multiply 80 81 (S + 1) t15) f15_0 (w16 78 (by omega) (by omega))
  have f16_1 := zf_row (t := fX1_multiply 80 81 (S + 1) t15) f15_1 (w16 79 (by omega) (by omega))
  have f16_2 := zf_row (t := fX1_multiply 80 81 (S + 1) t15) f15_2 (w16 80 (by omega) (by omega))
  have f16_3 := zf_row (t := fX1_multiply 80 81 (S + 1) t15) f15_3 (w16 81 (by omega) (by omega))
  have f16_4 := zf_row (t := fX1_multiply 80 81 (S + 1) t15) v15 (w16 (S + 0) (by omega) (by omega))
  generalize fX1_multiply 80 81 (S + 1) t15 = t16 at w16 v16 f16_0 f16_1 f16_2 f16_3 f16_4 ⊢
  obtain ⟨w17, v17⟩ := cX_mul (out := S + 2) f16_1 f16_2 (by omega) (by omega) (by omega) (by omega)
  have f17_0 := zf_row (t := fX1_multiply 79 80 (S + 2) t16) f16_0 (w17 78 (by omega) (by omega))
  have f17_1 := zf_row (t := fX1_multiply 79 80 (S + 2) t16) f16_3 (w17 81 (by omega) (by omega))
  have f17_2 := zf_row (t := fX1_multiply 79 80 (S + 2) t16) f16_4 (w17 (S + 0) (by omega) (by omega))
  have f17_3 := zf_row (t := fX1_multiply 79 80 (S + 2) t16) v16 (w17 (S + 1) (by omega) (by omega))
  generalize fX1_multiply 79 80 (S + 2) t16 = t17 at w17 v17 f17_0 f17_1 f17_2 f17_3 ⊢
  obtain ⟨w18, v18⟩ := cX_mul (out := S + 3) f17_0 f17_1 (by omega) (by omega) (by omega) (by omega)
  have f18_0 := zf_row (t := fX1_multiply 78 81 (S + 3) t17) f17_2 (w18 (S + 0) (by omega) (by omega))
  have f18_1 := zf_row (t := fX1_multiply 78 81 (S + 3) t17) f17_3 (w18 (S + 1) (by omega) (by omega))
  have f18_2 := zf_row (t := fX1_multiply 78 81 (S + 3) t17) v17 (w18 (S + 2) (by omega) (by omega))
  generalize fX1_multiply 78 81 (S + 3) t17 = t18 at w18 v18 f18_0 f18_1 f18_2 ⊢
  obtain ⟨g0, g1, g2, g3⟩ := sum_vals oA oB (k := 2 * (Z1 * Z2)) (zc_mul_ne zc_two (zc_mul_ne z1 z2))
  rw [rg_s1 _ _ _ _ _ _ cd, rg_s3] at f18_0
  rw [rg_s4, rg_s2 _ _ _ _ _ _ cd] at f18_1
  rw [rg_s3, rg_s4] at f18_2
  rw [rg_s1 _ _ _ _ _ _ cd, rg_s2 _ _ _ _ _ _ cd] at v18
  exact ⟨fun id n1 n2 n3 => by rw [w18 id (by omega) (by omega), w17 id (by omega) (by omega), w16 id (by omega) (by omega), w15 id (by omega) (by omega), w14 id (by omega), w13 id (by omega), w12 id (by omega), w11 id (by omega), w10 id (by omega), w9 id (by omega) (by omega), w8 id (by omega) (by omega), w7 id (by omega) (by omega), w6 id (by omega) (by omega), w5 id (by omega), w4 id (by omega), w3 id (by omega) (by omega), w2 id (by omega), w1 id (by omega)], ea_oc oA oB, _, g0, zf_congr f18_0 g1, zf_congr f18_1 g2, f18_2, zf_congr v18 g3⟩
theorem rg_t1 (x y Z : Int) : x*Z*(x*Z) + y*Z*(y*Z) - (x*Z + y*Z)*(x*Z + y*Z) = -(Z*Z)*(x*y + y*x) := by grind
theorem rg_t2 (x y Z : Int) : x*Z*(x*Z) + y*Z*(y*Z) = Z*Z*(y*y + x*x) := by grind
theorem rg_t3 (x y Z d : Int) : x*Z*(x*Z) - y*Z*(y*Z) = -(Z*Z)*(1 + d*x*x*y*y) + (d*x*x*y*y + 1 + x*x - y*y)*(Z*Z) := by grind
theorem rg_t4 (x y Z d : Int) : Z*Z + Z*Z + (x*Z*(x*Z) - y*Z*(y*Z)) = Z*Z*(1 - d*x*x*y*y) + (d*x*x*y*y + 1 + x*x - y*y)*(Z*Z) := by grind
theorem rg_t5 (k a b : Int) : -k*a*(k*b) = -1*(k*a*(k*b)) := by grind
theorem rg_t6 (k a b : Int) : k*a*(-k*b) = -1*(k*a*(k*b)) := by grind
theorem rg_t7 (k a : Int) : -1*(k*a) = k*(-1*a) := by grind
theorem zc_pz {a b : Int} (h : zc b 0) : zc (a + b) a := zc_trans (zc_add (zc_refl a) h) (zc_of (Int.add_zero a))
theorem zc_m1 : ¬ zc (-1) 0 := fun ⟨k, h⟩ => by omega
theorem cX_pdbl {s : zSt} {P S : Nat} {A : Int × Int} (hA : rX s P A) (hP : 60 < P ∧ (P + 3 < 72 ∨ 82 < P)) (hS : 60 < S ∧ (S + 3 < 72 ∨ 82 < S)) :
    (∀ id, id ≠ 40 → ¬ (75 ≤ id ∧ id ≤ 81) → ¬ (S ≤ id ∧ id ≤ S + 3) → (fX0_twice P S s).1 id = s.1 id) ∧ rX (fX0_twice P S s) S (ea A A) := by
  obtain ⟨oA, Z, hz, p0, p1, p2, p3⟩ := hA
  unfold fX0_twice
  dsimp only
  obtain ⟨w1, v1⟩ := cX_add (out := 78) p0 p1 (by omega)
  have f1_0 := zf_row (t := fX1_add (P + 0) (P + 1) 78 s) p0 (w1 (P + 0) (by omega))
  have f1_1 := zf_row (t := fX1_add (P + 0) (P + 1) 78 s) p1 (w1 (P + 1) (by omega))
  have f1_2 := zf_row (t := fX1_add (P + 0) (P + 1) 78 s) p2 (w1 (P + 2) (by omega))
  generalize fX1_add (P + 0) (P + 1) 78 s = t1 at w1 v1 f1_0 f1_1 f1_2 ⊢
  obtain ⟨w2, v2⟩ := cX_sq (out := 78) v1 (by omega) (by omega) (by omega)
  have f2_0 := zf_row (t := fX1_square 78 78 t1) f1_0 (w2 (P + 0) (by omega) (by omega))
  have f2_1 := zf_row (t := fX1_square 78 78 t1) f1_1 (w2 (P + 1) (by omega) (by omega))
  have f2_2 := zf_row (t := fX1_square 78 78 t1) f1_2 (w2 (P + 2) (by omega) (by omega))
  generalize fX1_square 78 78 t1 = t2 at w2 v2 f2_0 f2_1 f2_2 ⊢
  obtain ⟨w3, v3⟩ := cX_sq (out := 75) f2_0 (by omega) (by omega) (by omega)
  have f3_0 := zf_row (t := fX1_square (P + 0) 75 t2) v2 (w3 78 (by omega) (by omega))
  have f3_1 := zf_row (t := fX1_square (P + 0) 75 t2) f2_1 (w3 (P + 1) (by omega) (by omega))
  have f3_2 := zf_row (t := fX1_square (P + 0) 75 t2) f2_2 (w3 (P + 2) (by omega) (by omega))
  generalize fX1_square (P + 0) 75 t2 = t3 at w3 v3 f3_0 f3_1 f3_2 ⊢
  obtain ⟨w4, v4⟩ := cX_sq (out := 76) f3_1 (by omega) (by omega) (by omega)
  have f4_0 := zf_row (t := fX1_square (P + 1) 76 t3) v3 (w4 75 (by omega) (by omega))
  have f4_1 := zf_row (t := fX1_square (P + 1) 76 t3) f3_0 (w4 78 (by omega) (by omega))
  have f4_2 := zf_row (t := fX1_square (P + 1) 76 t3) f3_2 (w4 (P + 2) (by omega) (by omega))
  generalize fX1_square (P + 1) 76 t3 = t4 at w4 v4 f4_0 f4_1 f4_2 ⊢
  obtain ⟨w5, v5⟩ := cX_sq (out := 77) f4_2 (by omega) (by omega) (by omega)
  have f5_0 := zf_row (t := fX1_square (P + 2) 77 t4) f4_0 (w5 75 (by omega) (by omega))
  have f5_1 := zf_row (t := fX1_square (P + 2) 77 t4) v4 (w5 76 (by omega) (by omega))
  have f5_2 := zf_row (t := fX1_square (P + 2) 77 t4) f4_1 (w5 78 (by omega) (by omega))
  generalize fX1_square (P + 2) 77 t4 = t5 at w5 v5 f5_0 f5_1 f5_2 ⊢
  obtain ⟨w6, v6⟩ := cX_add (out := 77) v5 v5 (by omega)
  have f6_0 := zf_row (t := fX1_add 77 77 77 t5) f5_0 (w6 75 (by omega))
  have f6_1 := zf_row (t := fX1_add 77 77 77 t5) f5_1 (w6 76 (by omega))
  have f6_2 := zf_row (t := fX1_add 77 77 77 t5) f5_2 (w6 78 (by omega))
  generalize fX1_add 77 77 77 t5 = t6 at w6 v6 f6_0 f6_1 f6_2 ⊢
  obtain ⟨w7, v7⟩ := cX_add (out := 81) f6_0 f6_1 (by omega)
  have f7_0 := zf_row (t := fX1_add 75 76 81 t6) f6_0 (w7 75 (by omega))
  have f7_1 := zf_row (t := fX1_add 75 76 81 t6) f6_1 (w7 76 (by omega))
  have f7_2 := zf_row (t := fX1_add 75 76 81 t6) v6 (w7 77 (by omega))
  have f7_3 := zf_row (t := fX1_add 75 76 81 t6) f6_2 (w7 78 (by omega))
  generalize fX1_add 75 76 81 t6 = t7 at w7 v7 f7_0 f7_1 f7_2 f7_3 ⊢
  obtain ⟨w8, v8⟩ := cX_sub (out := 78) v7 f7_3 (by omega)
  have f8_0 := zf_row (t := fX1_subtract 81 78 78 t7) f7_0 (w8 75 (by omega))
  have f8_1 := zf_row (t := fX1_subtract 81 78 78 t7) f7_1 (w8 76 (by omega))
  have f8_2 := zf_row (t := fX1_subtract 81 78 78 t7) f7_2 (w8 77 (by omega))
  have f8_3 := zf_row (t := fX1_subtract 81 78 78 t7) v7 (w8 81 (by omega))
  generalize fX1_subtract 81 78 78 t7 = t8 at w8 v8 f8_0 f8_1 f8_2 f8_3 ⊢
  obtain ⟨w9, v9⟩ := cX_sub (out := 80) f8_0 f8_1 (by omega)
  have f9_0 := zf_row (t := fX1_subtract 75 76 80 t8) f8_2 (w9 77 (by omega))
  have f9_1 := zf_row (t := fX1_subtract 75 76 80 t8) v8 (w9 78 (by omega))
  have f9_2 := zf_row (t := fX1_subtract 75 76 80 t8) f8_3 (w9 81 (by omega))
  generalize fX1_subtract 75 76 80 t8 = t9 at w9 v9 f9_0 f9_1 f9_2 ⊢
  obtain ⟨w10, v10⟩ := cX_add (out := 79) f9_0 v9 (by omega)
  have f10_0 := zf_row (t := fX1_add 77 80 79 t9) f9_1 (w10 78 (by omega))
  have f10_1 := zf_row (t := fX1_add 77 80 79 t9) v9 (w10 80 (by omega))
  have f10_2 := zf_row (t := fX1_add 77 80 79 t9) f9_2 (w10 81 (by omega))
  generalize fX1_add 77 80 79 t9 = t10 at w10 v10 f10_0 f10_1 f10_2 ⊢
  obtain ⟨w11, v11⟩ := cX_mul (out := S + 0) f10_0 v10 (by omega) (by omega) (by omega) (by omega)
  have f11_0 := zf_row (t := fX1_multiply 78 79 (S + 0) t10) f10_0 (w11 78 (by omega) (by omega))
  have f11_1 := zf_row (t := fX1_multiply 78 79 (S + 0) t10) v10 (w11 79 (by omega) (by omega))
  have f11_2 := zf_row (t := fX1_multiply 78 79 (S + 0) t10) f10_1 (w11 80 (by omega) (by omega))
  have f11_3 := zf_row (t := fX1_multiply 78 79 (S + 0) t10) f10_2 (w11 81 (by omega) (by omega))
  generalize fX1_multiply 78 79 (S + 0) t10 = t11 at w11 v11 f11_0 f11_1 f11_2 f11_3 ⊢
  obtain ⟨w12, v12⟩ := cX_mul (out := S + 1) f11_2 f11_3 (by omega) (by omega) (by omega) (by omega)
  have f12_0 := zf_row (t := fX1_multiply 80 81 (S + 1) t11) f11_0 (w12 78 (by omega) (by omega))
  have f12_1 := zf_row (t := fX1_multiply 80 81 (S + 1) t11) f11_1 (w12 79 (by omega) (by omega))
  have f12_2 := zf_row (t := fX1_multiply 80 81 (S + 1) t11) f11_2 (w12 80 (by omega) (by omega))
  have f12_3 := zf_row (t := fX1_multiply 80 81 (S + 1) t11) f11_3 (w12 81 (by omega) (by omega))
  have f12_4 := zf_row (t := fX1_multiply 80 81 (S + 1) t11) v11 (w12 (S + 0) (by omega) (by omega))
  generalize fX1_multiply 80 81 (S + 1) t11 = t12 at w12 v12 f12_0 f12_1 f12_2 f12_3 f12_4 ⊢
  obtain ⟨w13, v13⟩ := cX_mul (out := S + 2) f12_1 f12_2 (by omega) (by omega) (by omega) (by omega)
  have f13_0 := zf_row (t := fX1_multiply 79 80 (S + 2) t12) f12_0 (w13 78 (by omega) (by omega))
  have f13_1 := zf_row (t := fX1_multiply 79 80 (S + 2) t12) f12_3 (w13 81 (by omega) (by omega))
  have f13_2 := zf_row (t := fX1_multiply 79 80 (S + 2) t12) f12_4 (w13 (S + 0) (by omega) (by omega))
  have f13_3 := zf_row (t := fX1_multiply 79 80 (S + 2) t12) v12 (w13 (S + 1) (by omega) (by omega))
  generalize fX1_multiply 79 80 (S + 2) t12 = t13 at w13 v13 f13_0 f13_1 f13_2 f13_3 ⊢
  obtain ⟨w14, v14⟩ := cX_mul (out := S + 3) f13_0 f13_1 (by omega) (by omega) (by omega) (by omega)
  have f14_0 := zf_row (t := fX1_multiply 78 81 (S + 3) t13) f13_2 (w14 (S + 0) (by omega) (by omega))
  have f14_1 := zf_row (t := fX1_multiply 78 81 (S + 3) t13) f13_3 (w14 (S + 1) (by omega) (by omega))
  have f14_2 := zf_row (t := fX1_multiply 78 81 (S + 3) t13) v13 (w14 (S + 2) (by omega) (by omega))
  generalize fX1_multiply 78 81 (S + 3) t13 = t14 at w14 v14 f14_0 f14_1 f14_2 ⊢
  obtain ⟨g0, g1, g2, g3⟩ := sum_vals oA oA (k := Z * Z) (zc_mul_ne hz hz)
  have c0 : zc (cd*A.1*A.1*A.2*A.2 + 1 + A.1*A.1 - A.2*A.2) 0 := oA
  have hg : zc (A.1*Z*(A.1*Z) - A.2*Z*(A.2*Z)) (-(Z*Z)*(1 + dl A A)) := zc_trans (zc_of (rg_t3 _ _ _ cd)) (zc_pz (zc_m0 _ c0))
  have hf : zc (Z*Z + Z*Z + (A.1*Z*(A.1*Z) - A.2*Z*(A.2*Z))) (Z*Z*(1 - dl A A)) := zc_trans (zc_of (rg_t4 _ _ _ cd)) (zc_pz (zc_m0 _ c0))
  have he : zc (A.1*Z*(A.1*Z) + A.2*Z*(A.2*Z) - (A.1*Z + A.2*Z)*(A.1*Z + A.2*Z)) (-(Z*Z)*(A.1*A.2 + A.2*A.1)) := zc_of (rg_t1 _ _ _)
  have hh : zc (A.1*Z*(A.1*Z) + A.2*Z*(A.2*Z)) (Z*Z*(A.2*A.2 + A.1*A.1)) := zc_of (rg_t2 _ _ _)
  have y0 := zf_congr f14_0 (zc_mul he hf)
  have y1 := zf_congr f14_1 (zc_mul hg hh)
  have y2 := zf_congr f14_2 (zc_mul hf hg)
  have y3 := zf_congr v14 (zc_mul he hh)
  rw [rg_t5] at y0 y1 y3
  rw [rg_t6] at y2
  have j1 := zc_mulL (-1) g1
  have j2 := zc_mulL (-1) g2
  have j3 := zc_mulL (-1) g3
  rw [rg_t7 (ea A A).1] at j1
  rw [rg_t7 (ea A A).2] at j2
  rw [rg_t7 ((ea A A).1 * (ea A A).2)] at j3
  exact ⟨fun id n1 n2 n3 => by rw [w14 id (by omega) (by omega), w13 id (by omega) (by omega), w12 id (by omega) (by omega), w11 id (by omega) (by omega), w10 id (by omega), w9 id (by omega), w8 id (by omega), w7 id (by omega), w6 id (by omega), w5 id (by omega) (by omega), w4 id (by omega) (by omega), w3 id (by omega) (by omega), w2 id (by omega) (by omega), w1 id (by omega)], ea_oc oA oA, _, zc_mul_ne zc_m1 g0, zf_congr y0 j1, zf_congr y1 j2, y2, zf_congr y3 j3⟩
theorem rg_u1 (x1 y1 x2 y2 Z1 Z2 d : Int) : ((x1*Z1 + y1*Z1)*(x2*Z2 + y2*Z2) - (y1*Z1 - x1*Z1)*(y2*Z2 - x2*Z2)) = 2*(Z1*Z2)*(x1*y2 + y1*x2) := by grind
theorem rg_u2 (x1 y1 x2 y2 Z1 Z2 d : Int) : ((x1*Z1 + y1*Z1)*(x2*Z2 + y2*Z2) + (y1*Z1 - x1*Z1)*(y2*Z2 - x2*Z2)) = 2*(Z1*Z2)*(y1*y2 + x1*x2) := by grind
theorem cM_padd {s : zSt} {p q : Nat} {A B : Int × Int} (hA : rM s p A) (hB : rM s q B) (hd : mf s 3 (cd + cd) 1) (hp : (3 < p ∧ p + 3 < 26) ∨ 33 < p) (hq : q + 3 < 26 ∨ 33 < q) :
    (∀ id j, id ≠ 3 → ¬ (id = 2 ∧ 416 ≤ j ∧ j < 544) → ¬ (id = 2 ∧ 16 * p ≤ j ∧ j < 16 * p + 64) → (fX10_addPoint p q s).1 id j = s.1 id j) ∧ rM (fX10_addPoint p q s) p (ea A B) := by
  obtain ⟨oA, Z1, z1, p0, p1, p2, p3⟩ := hA
  obtain ⟨oB, Z2, z2, q0, q1, q2, q3⟩ := hB
  unfold fX10_addPoint
  dsimp only
  obtain ⟨w1, v1⟩ := cM_sub (r := 26) p1 p0 (by omega)
  have f1_0 := mf_row (t := fX10_subtract 26 (p + 1) p s) hd (fun j hj => w1 2 (16 * 3 + j) (by omega))
  have f1_1 := mf_row (t := fX10_subtract 26 (p + 1) p s) p0 (fun j hj => w1 2 (16 * p + j) (by omega))
  have f1_2 := mf_row (t := fX10_subtract 26 (p + 1) p s) p1 (fun j hj => w1 2 (16 * (p + 1) + j) (by omega))
  have f1_3 := mf_row (t := fX10_subtract 26 (p + 1) p s) p2 (fun j hj => w1 2 (16 * (p + 2) + j) (by omega))
  have f1_4 := mf_row (t := fX10_subtract 26 (p + 1) p s) p3 (fun j hj => w1 2 (16 * (p + 3) + j) (by omega))
  have f1_5 := mf_row (t := fX10_subtract 26 (p + 1) p s) q0 (fun j hj => w1 2 (16 * q + j) (by omega))
  have f1_6 := mf_row (t := fX10_subtract 26 (p + 1) p s) q1 (fun j hj => w1 2 (16 * (q + 1) + j) (by omega))
  have f1_7 := mf_row (t := fX10_subtract 26 (p + 1) p s) q2 (fun j hj => w1 2 (16 * (q + 2) + j) (by omega))
  have f1_8 := mf_row (t := fX10_subtract 26 (p + 1) p s) q3 (fun j hj => w1 2 (16 * (q + 3) + j) (by omega))
  generalize fX10_subtract 26 (p + 1) p s = t1 at w1 v1 f1_0 f1_1 f1_2 f1_3 f1_4 f1_5 f1_6 f1_7 f1_8 ⊢
  obtain ⟨w2, v2⟩ := cM_sub (r := 27) f1_6 f1_5 (by omega)
  have f2_0 := mf_row (t := fX10_subtract 27 (q + 1) q t1) v1 (fun j hj => w2 2 (16 * 26 + j) (by omega))
  have f2_1 := mf_row (t := fX10_subtract 27 (q + 1) q t1) f1_0 (fun j hj => w2 2 (16 * 3 + j) (by omega))
  have f2_2 := mf_row (t := fX10_subtract 27 (q + 1) q t1) f1_1 (fun j hj => w2 2 (16 * p + j) (by omega))
  have f2_3 := mf_row (t := fX10_subtract 27 (q + 1) q t1) f1_2 (fun j hj => w2 2 (16 * (p + 1) + j) (by omega))
  have f2_4 := mf_row (t := fX10_subtract 27 (q + 1) q t1) f1_3 (fun j hj => w2 2 (16 * (p + 2) + j) (by omega))
  have f2_5 := mf_row (t := fX10_subtract 27 (q + 1) q t1) f1_4 (fun j hj => w2 2 (16 * (p + 3) + j) (by omega))
  have f2_6 := mf_row (t := fX10_subtract 27 (q + 1) q t1) f1_5 (fun j hj => w2 2 (16 * q + j) (by omega))
  have f2_7 := mf_row (t := fX10_subtract 27 (q + 1) q t1) f1_6 (fun j hj => w2 2 (16 * (q + 1) + j) (by omega))
  have f2_8 := mf_row (t := fX10_subtract 27 (q + 1) q t1) f1_7 (fun j hj => w2 2 (16 * (q + 2) + j) (by omega))
  have f2_9 := mf_row (t := fX10_subtract 27 (q + 1) q t1) f1_8 (fun j hj => w2 2 (16 * (q + 3) + j) (by omega))
  generalize fX10_subtract 27 (q + 1) q t1 = t2 at w2 v2 f2_0 f2_1 f2_2 f2_3 f2_4 f2_5 f2_6 f2_7 f2_8 f2_9 ⊢
  obtain ⟨w3, v3⟩ := cM_mul (r := 26) f2_0 v2 (by omega)
  have f3_0 := mf_row (t := fX10_multiply 26 26 27 t2) f2_1 (fun j hj => w3 2 (16 * 3 + j) (by omega) (by omega))
  have f3_1 := mf_row (t := fX10_multiply 26 26 27 t2) f2_2 (fun j hj => w3 2 (16 * p + j) (by omega) (by omega))
  have f3_2 := mf_row (t := fX10_multiply 26 26 27 t2) f2_3 (fun j hj => w3 2 (16 * (p + 1) + j) (by omega) (by omega))
  have f3_3 := mf_row (t := fX10_multiply 26 26 27 t2) f2_4 (fun j hj => w3 2 (16 * (p + 2) + j) (by omega) (by omega))
  have f3_4 := mf_row (t := fX10_multiply 26 26 27 t2) f2_5 (fun j hj => w3 2 (16 * (p + 3) + j) (by omega) (by omega))
  have f3_5 := mf_row (t := fX10_multiply 26 26 27 t2) f2_6 (fun j hj => w3 2 (16 * q + j) (by omega) (by omega))
  have f3_6 := mf_row (t := fX10_multiply 26 26 27 t2) f2_7 (fun j hj => w3 2 (16 * (q + 1) + j) (by omega) (by omega))
  have f3_7 := mf_row (t := fX10_multiply 26 26 27 t2) f2_8 (fun j hj => w3 2 (16 * (q + 2) + j) (by omega) (by omega))
  have f3_8 := mf_row (t := fX10_multiply 26 26 27 t2) f2_9 (fun j hj => w3 2 (16 * (q + 3) + j) (by omega) (by omega))
  generalize fX10_multiply 26 26 27 t2 = t3 at w3 v3 f3_0 f3_1 f3_2 f3_3 f3_4 f3_5 f3_6 f3_7 f3_8 ⊢
  obtain ⟨w4, v4⟩ := cM_add (r := 27) f3_1 f3_2 (by omega)
  have f4_0 := mf_row (t := fX10_add 27 p (p + 1) t3) v3 (fun j hj => w4 2 (16 * 26 + j) (by omega))
  have f4_1 := mf_row (t := fX10_add 27 p (p + 1) t3) f3_0 (fun j hj => w4 2 (16 * 3 + j) (by omega))
  have f4_2 := mf_row (t := fX10_add 27 p (p + 1) t3) f3_3 (fun j hj => w4 2 (16 * (p + 2) + j) (by omega))
  have f4_3 := mf_row (t := fX10_add 27 p (p + 1) t3) f3_4 (fun j hj => w4 2 (16 * (p + 3) + j) (by omega))
  have f4_4 := mf_row (t := fX10_add 27 p (p + 1) t3) f3_5 (fun j hj => w4 2 (16 * q + j) (by omega))
  have f4_5 := mf_row (t := fX10_add 27 p (p + 1) t3) f3_6 (fun j hj => w4 2 (16 * (q + 1) + j) (by omega))
  have f4_6 := mf_row (t := fX10_add 27 p (p + 1) t3) f3_7 (fun j hj => w4 2 (16 * (q + 2) + j) (by omega))
  have f4_7 := mf_row (t := fX10_add 27 p (p + 1) t3) f3_8 (fun j hj => w4 2 (16 * (q + 3) + j) (by omega))
  generalize fX10_add 27 p (p + 1) t3 = t4 at w4 v4 f4_0 f4_1 f4_2 f4_3 f4_4 f4_5 f4_6 f4_7 ⊢
  obtain ⟨w5, v5⟩ := cM_add (r := 28) f4_4 f4_5 (by omega)
  have f5_0 := mf_row (t := fX10_add 28 q (q + 1) t4) f4_0 (fun j hj => w5 2 (16 * 26 + j) (by omega))
  have f5_1 := mf_row (t := fX10_add 28 q (q + 1) t4) v4 (fun j hj => w5 2 (16 * 27 + j) (by omega))
  have f5_2 := mf_row (t := fX10_add 28 q (q + 1) t4) f4_1 (fun j hj => w5 2 (16 * 3 + j) (by omega))
  have f5_3 := mf_row (t := fX10_add 28 q (q + 1) t4) f4_2 (fun j hj => w5 2 (16 * (p + 2) + j) (by omega))
  have f5_4 := mf_row (t := fX10_add 28 q (q + 1) t4) f4_3 (fun j hj => w5 2 (16 * (p + 3) + j) (by omega))
  have f5_5 := mf_row (t := fX10_add 28 q (q + 1) t4) f4_6 (fun j hj => w5 2 (16 * (q + 2) + j) (by omega))
  have f5_6 := mf_row (t := fX10_add 28 q (q + 1) t4) f4_7 (fun j hj => w5 2 (16 * (q + 3) + j) (by omega))
  generalize fX10_add 28 q (q + 1) t4 = t5 at w5 v5 f5_0 f5_1 f5_2 f5_3 f5_4 f5_5 f5_6 ⊢
  obtain ⟨w6, v6⟩ := cM_mul (r := 27) f5_1 v5 (by omega)
  have f6_0 := mf_row (t := fX10_multiply 27 27 28 t5) f5_0 (fun j hj => w6 2 (16 * 26 + j) (by omega) (by omega))
  have f6_1 := mf_row (t := fX10_multiply 27 27 28 t5) f5_2 (fun j hj => w6 2 (16 * 3 + j) (by omega) (by omega))
  have f6_2 := mf_row (t := fX10_multiply 27 27 28 t5) f5_3 (fun j hj => w6 2 (16 * (p + 2) + j) (by omega) (by omega))
  have f6_3 := mf_row (t := fX10_multiply 27 27 28 t5) f5_4 (fun j hj => w6 2 (16 * (p + 3) + j) (by omega) (by omega))
  have f6_4 := mf_row (t := fX10_multiply 27 27 28 t5) f5_5 (fun j hj => w6 2 (16 * (q + 2) + j) (by omega) (by omega))
  have f6_5 := mf_row (t := fX10_multiply 27 27 28 t5) f5_6 (fun j hj => w6 2 (16 * (q + 3) + j) (by omega) (by omega))
  generalize fX10_multiply 27 27 28 t5 = t6 at w6 v6 f6_0 f6_1 f6_2 f6_3 f6_4 f6_5 ⊢
  obtain ⟨w7, v7⟩ := cM_mul (r := 28) f6_3 f6_5 (by omega)
  have f7_0 := mf_row (t := fX10_multiply 28 (p + 3) (q + 3) t6) f6_0 (fun j hj => w7 2 (16 * 26 + j) (by omega) (by omega))
  have f7_1 := mf_row (t := fX10_multiply 28 (p + 3) (q + 3) t6) v6 (fun j hj => w7 2 (16 * 27 + j) (by omega) (by omega))
  have f7_2 := mf_row (t := fX10_multiply 28 (p + 3) (q + 3) t6) f6_1 (fun j hj => w7 2 (16 * 3 + j) (by omega) (by omega))
  have f7_3 := mf_row (t := fX10_multiply 28 (p + 3) (q + 3) t6) f6_2 (fun j hj => w7 2 (16 * (p + 2) + j) (by omega) (by omega))
  have f7_4 := mf_row (t := fX10_multiply 28 (p + 3) (q + 3) t6) f6_4 (fun j hj => w7 2 (16 * (q + 2) + j) (by omega) (by omega))
  generalize fX10_multiply 28 (p + 3) (q + 3) t6 = t7 at w7 v7 f7_0 f7_1 f7_2 f7_3 f7_4 ⊢
  obtain ⟨w8, v8⟩ := cM_mul (r := 28) v7 f7_2 (by omega)
  have f8_0 := mf_row (t := fX10_multiply 28 28 3 t7) f7_0 (fun j hj => w8 2 (16 * 26 + j) (by omega) (by omega))
  have f8_1 := mf_row (t := fX10_multiply 28 28 3 t7) f7_1 (fun j hj => w8 2 (16 * 27 + j) (by omega) (by omega))
  have f8_2 := mf_row (t := fX10_multiply 28 28 3 t7) f7_3 (fun j hj => w8 2 (16 * (p + 2) + j) (by omega) (by omega))
  have f8_3 := mf_row (t := fX10_multiply 28 28 3 t7) f7_4 (fun j hj => w8 2 (16 * (q + 2) + j) (by omega) (by omega))
  generalize fX10_multiply 28 28 3 t7 = t8 at w8 v8 f8_0 f8_1 f8_2 f8_3 ⊢
  obtain ⟨w9, v9⟩ := cM_mul (r := 29) f8_2 f8_3 (by omega)
  have f9_0 := mf_row (t := fX10_multiply 29 (p + 2) (q + 2) t8) f8_0 (fun j hj => w9 2 (16 * 26 + j) (by omega) (by omega))
  have f9_1 := mf_row (t := fX10_multiply 29 (p + 2) (q + 2) t8) f8_1 (fun j hj => w9 2 (16 * 27 + j) (by omega) (by omega))
  have f9_2 := mf_row (t := fX10_multiply 29 (p + 2) (q + 2) t8) v8 (fun j hj => w9 2 (16 * 28 + j) (by omega) (by omega))
  generalize fX10_multiply 29 (p + 2) (q + 2) t8 = t9 at w9 v9 f9_0 f9_1 f9_2 ⊢
  obtain ⟨w10, v10⟩ := cM_add (r := 29) v9 v9 (by omega)
  have f10_0 := mf_row (t := fX10_add 29 29 29 t9) f9_0 (fun j hj => w10 2 (16 * 26 + j) (by omega))
  have f10_1 := mf_row (t := fX10_add 29 29 29 t9) f9_1 (fun j hj => w10 2 (16 * 27 + j) (by omega))
  have f10_2 := mf_row (t := fX10_add 29 29 29 t9) f9_2 (fun j hj => w10 2 (16 * 28 + j) (by omega))
  generalize fX10_add 29 29 29 t9 = t10 at w10 v10 f10_0 f10_1 f10_2 ⊢
  obtain ⟨w11, v11⟩ := cM_sub (r := 30) f10_1 f10_0 (by omega)
  have f11_0 := mf_row (t := fX10_subtract 30 27 26 t10) f10_0 (fun j hj => w11 2 (16 * 26 + j) (by omega))
  have f11_1 := mf_row (t := fX10_subtract 30 27 26 t10) f10_1 (fun j hj => w11 2 (16 * 27 + j) (by omega))
  have f11_2 := mf_row (t := fX10_subtract 30 27 26 t10) f10_2 (fun j hj => w11 2 (16 * 28 + j) (by omega))
  have f11_3 := mf_row (t := fX10_subtract 30 27 26 t10) v10 (fun j hj => w11 2 (16 * 29 + j) (by omega))
  generalize fX10_subtract 30 27 26 t10 = t11 at w11 v11 f11_0 f11_1 f11_2 f11_3 ⊢
  obtain ⟨w12, v12⟩ := cM_sub (r := 31) f11_3 f11_2 (by omega)
  have f12_0 := mf_row (t := fX10_subtract 31 29 28 t11) f11_0 (fun j hj => w12 2 (16 * 26 + j) (by omega))
  have f12_1 := mf_row (t := fX10_subtract 31 29 28 t11) f11_1 (fun j hj => w12 2 (16 * 27 + j) (by omega))
  have f12_2 := mf_row (t := fX10_subtract 31 29 28 t11) f11_2 (fun j hj => w12 2 (16 * 28 + j) (by omega))
  have f12_3 := mf_row (t := fX10_subtract 31 29 28 t11) f11_3 (fun j hj => w12 2 (16 * 29 + j) (by omega))
  have f12_4 := mf_row (t := fX10_subtract 31 29 28 t11) v11 (fun j hj => w12 2 (16 * 30 + j) (by omega))
  generalize fX10_subtract 31 29 28 t11 = t12 at w12 v12 f12_0 f12_1 f12_2 f12_3 f12_4 ⊢
  obtain ⟨w13, v13⟩ := cM_add (r := 32) f12_3 f12_2 (by omega)
  have f13_0 := mf_row (t := fX10_add 32 29 28 t12) f12_0 (fun j hj => w13 2 (16 * 26 + j) (by omega))
  have f13_1 := mf_row (t := fX10_add 32 29 28 t12) f12_1 (fun j hj => w13 2 (16 * 27 + j) (by omega))
  have f13_2 := mf_row (t := fX10_add 32 29 28 t12) f12_4 (fun j hj => w13 2 (16 * 30 + j) (by omega))
  have f13_3 := mf_row (t := fX10_add 32 29 28 t12) v12 (fun j hj => w13 2 (16 * 31 + j) (by omega))
  generalize fX10_add 32 29 28 t12 = t13 at w13 v13 f13_0 f13_1 f13_2 f13_3 ⊢
  obtain ⟨w14, v14⟩ := cM_add (r := 33) f13_1 f13_0 (by omega)
  have f14_0 := mf_row (t := fX10_add 33 27 26 t13) f13_2 (fun j hj => w14 2 (16 * 30 + j) (by omega))
  have f14_1 := mf_row (t := fX10_add 33 27 26 t13) f13_3 (fun j hj => w14 2 (16 * 31 + j) (by omega))
  have f14_2 := mf_row (t := fX10_add 33 27 26 t13) v13 (fun j hj => w14 2 (16 * 32 + j) (by omega))
  generalize fX10_add 33 27 26 t13 = t14 at w14 v14 f14_0 f14_1 f14_2 ⊢
  obtain ⟨w15, v15⟩ := cM_mul (r := p) f14_0 f14_1 (by omega)
  have f15_0 := mf_row (t := fX10_multiply p 30 31 t14) f14_0 (fun j hj => w15 2 (16 * 30 + j) (by omega) (by omega))
  have f15_1 := mf_row (t := fX10_multiply p 30 31 t14) f14_1 (fun j hj => w15 2 (16 * 31 + j) (by omega) (by omega))
  have f15_2 := mf_row (t := fX10_multiply p 30 31 t14) f14_2 (fun j hj => w15 2 (16 * 32 + j) (by omega) (by omega))
  have f15_3 := mf_row (t := fX10_multiply p 30 31 t14) v14 (fun j hj => w15 2 (16 * 33 + j) (by omega) (by omega))
  generalize fX10_multiply p 30 31 t14 = t15 at w15 v15 f15_0 f15_1 f15_2 f15_3 ⊢
  obtain ⟨w16, v16⟩ := cM_mul (r := p + 1) f15_3 f15_2 (by omega)
  have f16_0 := mf_row (t := fX10_multiply (p + 1) 33 32 t15) f15_0 (fun j hj => w16 2 (16 * 30 + j) (by omega) (by omega))
  have f16_1 := mf_row (t := fX10_multiply (p + 1) 33 32 t15) f15_1 (fun j hj => w16 2 (16 * 31 + j) (by omega) (by omega))
  have f16_2 := mf_row (t := fX10_multiply (p + 1) 33 32 t15) f15_2 (fun j hj => w16 2 (16 * 32 + j) (by omega) (by omega))
  have f16_3 := mf_row (t := fX10_multiply (p + 1) 33 32 t15) f15_3 (fun j hj => w16 2 (16 * 33 + j) (by omega) (by omega))
  have f16_4 := mf_row (t := fX10_multiply (p + 1) 33 32 t15) v15 (fun j hj => w16 2 (16 * p + j) (by omega) (by omega))
  generalize fX10_multiply (p + 1) 33 32 t15 = t16 at w16 v16 f16_0 f16_1 f16_2 f16_3 f16_4 ⊢
  obtain ⟨w17, v17⟩ := cM_mul (r := p + 2) f16_2 f16_1 (by omega)
  have f17_0 := mf_row (t := fX10_multiply (p + 2) 32 31 t16) f16_0 (fun j hj => w17 2 (16 * 30 + j) (by omega) (by omega))
  have f17_1 := mf_row (t := fX10_multiply (p + 2) 32 31 t16) f16_3 (fun j hj => w17 2 (16 * 33 + j) (by omega) (by omega))
  have f17_2 := mf_row (t := fX10_multiply (p + 2) 32 31 t16) f16_4 (fun j hj => w17 2 (16 * p + j) (by omega) (by omega))
  have f17_3 := mf_row (t := fX10_multiply (p + 2) 32 31 t16) v16 (fun j hj => w17 2 (16 * (p + 1) + j) (by omega) (by omega))
  generalize fX10_multiply (p + 2) 32 31 t16 = t17 at w17 v17 f17_0 f17_1 f17_2 f17_3 ⊢
  obtain ⟨w18, v18⟩ := cM_mul (r := p + 3) f17_0 f17_1 (by omega)
  have f18_0 := mf_row (t := fX10_multiply (p + 3) 30 33 t17) f17_2 (fun j hj => w18 2 (16 * p + j) (by omega) (by omega))
  have f18_1 := mf_row (t := fX10_multiply (p + 3) 30 33 t17) f17_3 (fun j hj => w18 2 (16 * (p + 1) + j) (by omega) (by omega))
  have f18_2 := mf_row (t := fX10_multiply (p + 3) 30 33 t17) v17 (fun j hj => w18 2 (16 * (p + 2) + j) (by omega) (by omega))
  generalize fX10_multiply (p + 3) 30 33 t17 = t18 at w18 v18 f18_0 f18_1 f18_2 ⊢
  obtain ⟨g0, g1, g2, g3⟩ := sum_vals oA oB (k := 2 * (Z1 * Z2)) (zc_mul_ne zc_two (zc_mul_ne z1 z2))
  rw [rg_u1 _ _ _ _ _ _ cd, rg_s3] at f18_0
  rw [rg_u2 _ _ _ _ _ _ cd, rg_s4, Int.mul_comm] at f18_1
  rw [rg_s4, rg_s3, Int.mul_comm] at f18_2
  rw [rg_u1 _ _ _ _ _ _ cd, rg_u2 _ _ _ _ _ _ cd] at v18
  exact ⟨fun id j n1 n2 n3 => by rw [w18 id j (by omega) (by omega), w17 id j (by omega) (by omega), w16 id j (by omega) (by omega), w15 id j (by omega) (by omega), w14 id j (by omega), w13 id j (by omega), w12 id j (by omega), w11 id j (by omega), w10 id j (by omega), w9 id j (by omega) (by omega), w8 id j (by omega) (by omega), w7 id j (by omega) (by omega), w6 id j (by omega) (by omega), w5 id j (by omega), w4 id j (by omega), w3 id j (by omega) (by omega), w2 id j (by omega), w1 id j (by omega)], ea_oc oA oB, _, g0, mf_congr f18_0 g1, mf_congr f18_1 g2, f18_2, mf_congr v18 g3⟩
