/-! calls on both sides: field, power, other, root -/
theorem GI.kx {T : Nat} {s t s' : zSt} (h : GI T s t) (a : ∀ id, (id < 40 ∨ (66 < id ∧ id < 75)) → s'.1 id = s.1 id) (k : zk2 s' = zk2 s) : GI T s' t := h.keep (KX_of a k) (KM.refl t) h.h5
theorem GI.km {T : Nat} {s t t' : zSt} (h : GI T s t) (a : ∀ id j, (id = 0 ∨ id = 5 ∨ id = 6 ∨ (id = 2 ∧ j < 144) ∨ (id = 4 ∧ 32 ≤ j ∧ j < 40)) → t'.1 id j = t.1 id j) (k : zk2 t' = zk2 t) : GI T s t' := h.keep (KX.refl s) (KM_of a k) ((z2_I k 5).trans h.h5)
section
variable {T u : Nat} {s t : zSt} {x y : Int}
theorem fe_add (h : GI T s t) (hu : u < 24) (x1 : zf s 202 x 1) (y1 : zf s 203 y 1) (m1 : mf t 40 x 1) (m2 : mf t 36 y 1) : GI T (fX1_store 202 (11 + u) (fX1_add 202 203 202 s)) (fX10_store u 38 (fX10_add 38 40 36 t)) := by
  obtain ⟨a1, a2⟩ := cX_add (out := 202) x1 y1 (by omega)
  obtain ⟨b1, b2⟩ := cM_add (r := 38) m1 m2 (by omega)
  exact (put_fe ((h.kx (fun id q => a1 id (by omega)) (k2_fX1_add 202 203 202 s)).km (fun id j q => b1 id j (by omega)) (k2_fX10_add 38 40 36 t)) hu a2 b2 (by omega) (by omega)).1
theorem fe_sub (h : GI T s t) (hu : u < 24) (x1 : zf s 202 x 1) (y1 : zf s 203 y 1) (m1 : mf t 40 x 1) (m2 : mf t 36 y 1) : GI T (fX1_store 202 (11 + u) (fX1_subtract 202 203 202 s)) (fX10_store u 38 (fX10_subtract 38 40 36 t)) := by
  obtain ⟨a1, a2⟩ := cX_sub (out := 202) x1 y1 (by omega)
  obtain ⟨b1, b2⟩ := cM_sub (r := 38) m1 m2 (by omega)
  exact (put_fe ((h.kx (fun id q => a1 id (by omega)) (k2_fX1_subtract 202 203 202 s)).km (fun id j q => b1 id j (by omega)) (k2_fX10_subtract 38 40 36 t)) hu a2 b2 (by omega) (by omega)).1
theorem fe_mul (h : GI T s t) (hu : u < 24) (x1 : zf s 202 x 1) (y1 : zf s 203 y 1) (m1 : mf t 40 x 1) (m2 : mf t 36 y 1) : GI T (fX1_store 202 (11 + u) (fX1_multiply 202 203 202 s)) (fX10_store u 38 (fX10_multiply 38 40 36 t)) := by
  obtain ⟨a1, a2⟩ := cX_mul (out := 202) x1 y1 (by omega) (by omega) (by omega) (by omega)
  obtain ⟨b1, b2⟩ := cM_mul (r := 38) m1 m2 (by omega)
  exact (put_fe ((h.kx (fun id q => a1 id (by omega) (by omega)) (k2_fX1_multiply 202 203 202 s)).km (fun id j q => b1 id j (by omega) (by omega)) (k2_fX10_multiply 38 40 36 t)) hu a2 b2 (by omega) (by omega)).1
theorem fe_div (h : GI T s t) (hu : u < 24) (x1 : zf s 202 x 1) (y1 : zf s 203 y 1) (m1 : mf t 40 x 1) (m2 : mf t 36 y 1) : GI T (fX1_store 202 (11 + u) (fX1_multiply 202 203 202 (fX1_invert 203 203 s))) (fX10_store u 38 (fX10_multiply 38 40 37 (fX10_invert 37 36 t))) := by
  obtain ⟨a1, a2⟩ := cX_invert (out := 203) y1 (by omega) h.1.1.2.2.2.2.2.2.1 (by omega) (by omega)
  have x2 := zf_row (t := fX1_invert 203 203 s) x1 (a1 202 (by omega) (by omega) (by omega))
  have a3 := k2_fX1_invert 203 203 s
  unfold iv at a2
  generalize fX1_invert 203 203 s = s1 at a1 a2 a3 x2 ⊢
  obtain ⟨b1, b2⟩ := cM_invert (r := 37) m2 (by omega) (by omega) (by omega)
  have m3 := mf_row (t := fX10_invert 37 36 t) m1 (fun j hj => b1 2 (16 * 40 + j) (by omega) (by omega) (by omega) (by omega) (by omega))
  have b3 := k2_fX10_invert 37 36 t
  generalize fX10_invert 37 36 t = t1 at b1 b2 b3 m3 ⊢
  generalize y ^ pInv = z at a2 b2
  have h1 := (h.kx (fun id q => a1 id (by omega) (by omega) (by omega)) a3).km (fun id j q => b1 id j (by omega) (by omega) (by omega) (by omega) (by omega)) b3
  obtain ⟨c1, c2⟩ := cX_mul (out := 202) x2 a2 (by omega) (by omega) (by omega) (by omega)
  obtain ⟨d1, e2⟩ := cM_mul (r := 38) m3 b2 (by omega)
  exact (put_fe ((h1.kx (fun id q => c1 id (by omega) (by omega)) (k2_fX1_multiply 202 203 202 s1)).km (fun id j q => d1 id j (by omega) (by omega)) (k2_fX10_multiply 38 40 37 t1)) hu c2 e2 (by omega) (by omega)).1
end
theorem cb_0 (s : zSt) : fX9_combine 0 s = fX1_add 202 203 202 s := by
  unfold fX9_combine
  rw [if_pos rfl]
  rfl
theorem cb_1 (s : zSt) : fX9_combine 1 s = fX1_subtract 202 203 202 s := by
  unfold fX9_combine fX9_combine_a6
  rw [if_neg (by decide), if_pos rfl]
  rfl
theorem cb_2 (s : zSt) : fX9_combine 2 s = fX1_multiply 202 203 202 s := by
  unfold fX9_combine fX9_combine_a6 fX9_combine_a5
  rw [if_neg (by decide), if_neg (by decide), if_pos rfl]
  rfl
theorem cb_3 (s : zSt) : fX9_combine 3 s = fX1_multiply 202 203 202 (fX1_invert 203 203 s) := by
  unfold fX9_combine fX9_combine_a6 fX9_combine_a5
  rw [if_neg (by decide), if_neg (by decide), if_neg (by decide)]
  rfl
theorem fe_all {T : Nat} {s t : zSt} {x y : Int} (w u : Int32) (h : GI T s t) (hw : w.toNatClampNeg < 4) (hu : u.toNatClampNeg < 24) (x1 : zf s 202 x 1) (y1 : zf s 203 y 1) (m1 : mf t 40 x 1) (m2 : mf t 36 y 1) : (w.toNatClampNeg ≠ 3 → zfst (fX9_field_a3 w u s) = zfst (fX10_field_a9 w u t) ∧ GI T (zsnd (fX9_field_a3 w u s)) (zsnd (fX10_field_a9 w u t))) ∧ (w.toNatClampNeg = 3 → zfst (fX9_field_a4 w u s) = zfst (fX10_field_a16 w u t) ∧ GI T (zsnd (fX9_field_a4 w u s)) (zsnd (fX10_field_a16 w u t))) := by
  unfold fX9_field_a3 fX9_field_a4 fX10_field_a9 fX10_field_a7 fX10_field_a5 fX10_field_a3 fX10_field_a4 fX10_field_a6 fX10_field_a8 fX10_field_a16 fX10_field_a14 fX10_field_a12 fX10_field_a10
  dsimp only
  generalize w.toNatClampNeg = n at hw ⊢
  generalize u.toNatClampNeg = u at hu ⊢
  match n, hw with
  | 0, _ =>
    refine ⟨fun _ => ?_, fun q => absurd q (by omega)⟩
    rw [cb_0, if_neg (by decide)]
    simp only [zfst_mk, zsnd_mk]
    exact ⟨trivial, fe_add h hu x1 y1 m1 m2⟩
  | 1, _ =>
    refine ⟨fun _ => ?_, fun q => absurd q (by omega)⟩
    rw [cb_1, if_pos (by decide), if_neg (by decide)]
    simp only [zfst_mk, zsnd_mk]
    exact ⟨trivial, fe_sub h hu x1 y1 m1 m2⟩
  | 2, _ =>
    refine ⟨fun _ => ?_, fun q => absurd q (by omega)⟩
    rw [cb_2, if_pos (by decide), if_pos (by decide), if_neg (by decide)]
    simp only [zfst_mk, zsnd_mk]
    exact ⟨trivial, fe_mul h hu x1 y1 m1 m2⟩
  | 3, _ =>
    refine ⟨fun q => absurd rfl q, fun _ => ?_⟩
    rw [cb_3, if_pos (by decide), if_pos (by decide), if_pos (by decide)]
    simp only [zfst_mk, zsnd_mk]
    exact ⟨trivial, fe_div h hu x1 y1 m1 m2⟩
theorem c_field {T : Nat} {s t : zSt} (w a b u : Int32) (h : GI T s t) : zfst (fX9_field w a b u s) = zfst (fX10_field w a b u t) ∧ GI T (zsnd (fX9_field w a b u s)) (zsnd (fX10_field w a b u t)) := by
  unfold fX9_field fX10_field
  rw [is_sl a s t]
  cases e : vX10_isSlot a t with
  | false => rw [cond_false, cond_false]; exact ⟨rfl, h⟩
  | true =>
    rw [cond_true, cond_true]
    unfold fX9_field_a12 fX10_field_a24
    rw [is_sl b s t]
    cases e1 : vX10_isSlot b t with
    | false => rw [cond_false, cond_false]; exact ⟨rfl, h⟩
    | true =>
      rw [cond_true, cond_true]
      unfold fX9_field_a11 fX10_field_a23
      rw [is_sl u s t]
      cases e2 : vX10_isSlot u t with
      | false => rw [cond_false, cond_false]; exact ⟨rfl, h⟩
      | true =>
        rw [cond_true, cond_true]
        unfold fX9_field_a9 fX10_field_a21
        rw [is_in w 3 s t (by omega)]
        cases e3 : vX10_in w (nI 0) (nI 3) t with
        | false => rw [cond_false, cond_false]; exact ⟨rfl, h⟩
        | true =>
          rw [cond_true, cond_true]
          unfold fX9_field_a7 fX10_field_a19
          dsimp only
          obtain ⟨r1, ⟨x, r2, r3⟩, -, -⟩ := ld_fe (P := 202) (r := 40) h (msl_of e).2 (by omega) (by omega)
          generalize fX1_load (11 + a.toNatClampNeg) 202 s = s1 at r1 r2 ⊢
          generalize fX10_load 40 a.toNatClampNeg t = t1 at r1 r3 ⊢
          obtain ⟨o1, ⟨y, o2, o3⟩, o4, o5⟩ := ld_fe (P := 203) (r := 36) r1 (msl_of e1).2 (by omega) (by omega)
          have x1 := zf_row (t := fX1_load (11 + b.toNatClampNeg) 203 s1) r2 (o4 202 (by omega))
          have m1 := mf_row (t := fX10_load 36 b.toNatClampNeg t1) r3 (fun j hj => o5 2 (16 * 40 + j) (by omega) (by omega))
          generalize fX1_load (11 + b.toNatClampNeg) 203 s1 = s2 at o1 o2 x1 ⊢
          generalize fX10_load 36 b.toNatClampNeg t1 = t2 at o1 o3 m1 ⊢
          have hw : w.toNatClampNeg < 4 := (min_of (by omega) e3).2
          by_cases q : w.toNatClampNeg ≠ 3
          · rw [if_pos q, if_pos q]
            exact (fe_all w u o1 hw (msl_of e2).2 x1 o2 m1 o3).1 q
          · rw [if_neg q, if_neg q]
            unfold fX9_field_a6 fX10_field_a18
            dsimp only
            obtain ⟨i1, i2⟩ := cX_isZero o2 (by omega)
            obtain ⟨j1, j2⟩ := cM_isSame o3 o1.2.1.1.1 (by omega) (by omega) (by omega)
            rw [Int.sub_zero] at j2
            rw [i2, j2]
            have h3 := (o1.kx (fun id q => i1 id (by omega)) (k2_fX1_isZero 203 s2)).km (fun id j q => j1 id j (by omega) (by omega) (by omega)) (k2_fX10_isSame 36 0 t2)
            have x1 := zf_row (t := zsnd (fX1_isZero 203 s2)) x1 (i1 202 (by omega))
            have y1 := zf_row (t := zsnd (fX1_isZero 203 s2)) o2 (i1 203 (by omega))
            have m1 := mf_row (t := zsnd (fX10_isSame 36 0 t2)) m1 (fun j hj => j1 2 (16 * 40 + j) (by omega) (by omega) (by omega))
            have m2 := mf_row (t := zsnd (fX10_isSame 36 0 t2)) o3 (fun j hj => j1 2 (16 * 36 + j) (by omega) (by omega) (by omega))
            clear i1 i2 j1 j2
            generalize zsnd (fX1_isZero 203 s2) = s3 at h3 x1 y1 ⊢
            generalize zsnd (fX10_isSame 36 0 t2) = t3 at h3 m1 m2 ⊢
            generalize decide (y % 57896044618658097711785492504343953926634992332820282019728792003956564819949 = 0) = b'
            cases b' with
            | true => rw [cond_true, cond_true]; unfold fX9_field_a5 fX10_field_a17; simp only [zfst_mk, zsnd_mk]; exact ⟨trivial, h3⟩
            | false => rw [cond_false, cond_false]; exact (fe_all w u h3 hw (msl_of e2).2 x1 y1 m1 m2).2 (Classical.not_not.mp q)
