/-! calls on both sides: power, other, root -/
theorem put_pow {T a b u : Nat} {s t : zSt} (h : GI T s t) (ha : a < 24) (hb : b < 24) (hu : u < 24) : GI T (fX1_store 202 (11 + u) (fX1_raise 202 (11 + b) 202 (fX1_load (11 + a) 202 s))) (fX10_store u 36 (fX10_raise 36 40 8 (fX10_fromSlot 8 b (fX10_load 40 a t)))) := by
  obtain ⟨r1, ⟨x, r2, r3⟩, -, -⟩ := ld_fe (P := 202) (r := 40) h ha (by omega) (by omega)
  generalize fX1_load (11 + a) 202 s = s1 at r1 r2 ⊢
  generalize fX10_load 40 a t = t1 at r1 r3 ⊢
  have e : rN (s1.1 (11 + b)) 4 = slM t1 b := r1.2.2.2.1 b hb
  obtain ⟨a1, a2⟩ := cX_raise (e := 11 + b) (out := 202) r2 (by omega) (by omega) (by omega) (by omega)
  rw [e] at a2
  have a3 := k2_fX1_raise 202 (11 + b) 202 s1
  generalize fX1_raise 202 (11 + b) 202 s1 = s2 at a1 a2 a3 ⊢
  obtain ⟨f1, f2, f3⟩ := cM_from 8 b t1
  have m1 := mf_row (t := fX10_fromSlot 8 b t1) r3 (fun j hj => f1 2 (16 * 40 + j) (by omega))
  generalize fX10_fromSlot 8 b t1 = t2 at f1 f2 f3 m1 ⊢
  obtain ⟨b1, b2⟩ := cM_raise (r := 36) (e := 8) m1 (by omega) (by omega) (by omega)
  rw [f2] at b2
  have b3 := k2_fX10_raise 36 40 8 t2
  generalize fX10_raise 36 40 8 t2 = t3 at b1 b2 b3 ⊢
  generalize slM t1 b = n at a2 b2
  generalize x ^ n = z at a2 b2
  have h2 := (r1.kx (fun id q => a1 id (by omega) (by omega) (by omega)) a3).km (fun id j q => f1 id j (by omega)) (by show t2.2 = t1.2; rw [f3])
  exact (put_fe (h2.km (fun id j q => b1 id j (by omega) (by omega) (by omega)) b3) hu a2 b2 (by omega) (by omega)).1
theorem c_power {T : Nat} {s t : zSt} (a b u : Int32) (h : GI T s t) : zfst (fX9_power a b u s) = zfst (fX10_power a b u t) ∧ GI T (zsnd (fX9_power a b u s)) (zsnd (fX10_power a b u t)) := by
  unfold fX9_power fX10_power
  rw [is_sl a s t]
  cases e : vX10_isSlot a t with
  | false => rw [cond_false, cond_false]; exact ⟨rfl, h⟩
  | true =>
    rw [cond_true, cond_true]
    unfold fX9_power_a6 fX10_power_a6
    rw [is_sl b s t]
    cases e1 : vX10_isSlot b t with
    | false => rw [cond_false, cond_false]; exact ⟨rfl, h⟩
    | true =>
      rw [cond_true, cond_true]
      unfold fX9_power_a5 fX10_power_a5
      rw [is_sl u s t]
      cases e2 : vX10_isSlot u t with
      | false => rw [cond_false, cond_false]; exact ⟨rfl, h⟩
      | true =>
        rw [cond_true, cond_true]
        unfold fX9_power_a3 fX10_power_a3
        dsimp only
        simp only [zfst_mk, zsnd_mk]
        exact ⟨trivial, put_pow h (msl_of e).2 (msl_of e1).2 (msl_of e2).2⟩
theorem put_oth {T u : Nat} {s t : zSt} {y : Int} (h : GI T s t) (hu : u < 24) (y1 : zf s 206 y 1) (m1 : mf t 11 y 1) : GI T (fX1_store 202 (11 + u) (fX0_findOtherShape 205 202 s)) (fX10_store u 38 (fX10_multiply 38 36 37 (fX10_invert 37 40 (fX10_add 36 1 11 (fX10_subtract 40 1 11 t))))) := by
  have eX : fX0_findOtherShape 205 202 s = fX1_multiply 75 76 202 (fX1_add 72 206 76 (fX1_invert 75 75 (fX1_subtract 72 206 75 s))) := rfl
  rw [eX]
  clear eX
  obtain ⟨a1, a2⟩ := cX_sub (out := 75) h.1.1.2.2.1 y1 (by omega)
  have y2 := zf_row (t := fX1_subtract 72 206 75 s) y1 (a1 206 (by omega))
  obtain ⟨b1, b2⟩ := cM_sub (r := 40) h.2.1.1.2.1 m1 (by omega)
  have m2 := mf_row (t := fX10_subtract 40 1 11 t) m1 (fun j hj => b1 2 (16 * 11 + j) (by omega))
  have h1 := (h.kx (fun id q => a1 id (by omega)) (k2_fX1_subtract 72 206 75 s)).km (fun id j q => b1 id j (by omega)) (k2_fX10_subtract 40 1 11 t)
  generalize fX1_subtract 72 206 75 s = s1 at h1 a2 y2 ⊢
  generalize fX10_subtract 40 1 11 t = t1 at h1 b2 m2 ⊢
  clear a1 b1
  obtain ⟨a1, a2⟩ := cX_invert (out := 75) a2 (by omega) h1.1.1.2.2.2.2.2.2.1 (by omega) (by omega)
  unfold iv at a2
  have y3 := zf_row (t := fX1_invert 75 75 s1) y2 (a1 206 (by omega) (by omega) (by omega))
  have h2 := h1.kx (fun id q => a1 id (by omega) (by omega) (by omega)) (k2_fX1_invert 75 75 s1)
  generalize fX1_invert 75 75 s1 = s2 at h2 a2 y3 ⊢
  clear a1
  obtain ⟨b1, b3⟩ := cM_add (r := 36) h2.2.1.1.2.1 m2 (by omega)
  have m3 := mf_row (t := fX10_add 36 1 11 t1) b2 (fun j hj => b1 2 (16 * 40 + j) (by omega))
  have h3 := h2.km (fun id j q => b1 id j (by omega)) (k2_fX10_add 36 1 11 t1)
  generalize fX10_add 36 1 11 t1 = t2 at h3 b3 m3 ⊢
  clear b1
  obtain ⟨a1, a3⟩ := cX_add (out := 76) h3.1.1.2.2.1 y3 (by omega)
  have a2 := zf_row (t := fX1_add 72 206 76 s2) a2 (a1 75 (by omega))
  have h4 := h3.kx (fun id q => a1 id (by omega)) (k2_fX1_add 72 206 76 s2)
  generalize fX1_add 72 206 76 s2 = s3 at h4 a2 a3 ⊢
  clear a1
  obtain ⟨b1, b4⟩ := cM_invert (r := 37) m3 (by omega) (by omega) (by omega)
  have m4 := mf_row (t := fX10_invert 37 40 t2) b3 (fun j hj => b1 2 (16 * 36 + j) (by omega) (by omega) (by omega) (by omega) (by omega))
  have h5 := h4.km (fun id j q => b1 id j (by omega) (by omega) (by omega) (by omega) (by omega)) (k2_fX10_invert 37 40 t2)
  generalize fX10_invert 37 40 t2 = t3 at h5 b4 m4 ⊢
  clear b1
  generalize (1 - y) ^ pInv = z at a2 b4
  obtain ⟨a1, a4⟩ := cX_mul (out := 202) a2 a3 (by omega) (by omega) (by omega) (by omega)
  obtain ⟨b1, b5⟩ := cM_mul (r := 38) m4 b4 (by omega)
  rw [Int.mul_comm] at b5
  exact (put_fe ((h5.kx (fun id q => a1 id (by omega) (by omega)) (k2_fX1_multiply 75 76 202 s3)).km (fun id j q => b1 id j (by omega) (by omega)) (k2_fX10_multiply 38 36 37 t3)) hu a4 b5 (by omega) (by omega)).1
theorem c_other {T : Nat} {s t : zSt} (v u : Int32) (h : GI T s t) : zfst (fX9_other v u s) = zfst (fX10_other v u t) ∧ GI T (zsnd (fX9_other v u s)) (zsnd (fX10_other v u t)) := by
  unfold fX9_other fX10_other
  rw [is_sl v s t]
  cases e : vX10_isSlot v t with
  | false => rw [cond_false, cond_false]; exact ⟨rfl, h⟩
  | true =>
    rw [cond_true, cond_true]
    unfold fX9_other_a6 fX10_other_a6
    rw [is_sl u s t]
    cases e2 : vX10_isSlot u t with
    | false => rw [cond_false, cond_false]; exact ⟨rfl, h⟩
    | true =>
      rw [cond_true, cond_true]
      unfold fX9_other_a4 fX10_other_a4
      dsimp only
      obtain ⟨r1, r2, -, -, -⟩ := rd_pt h (msl_of e).2 205 10 (by omega) (by omega)
      have r3 := rd_xy h (msl_of e).2 205 10 (by omega) (by omega)
      rw [r1]
      generalize zsnd (fX0_read (11 + v.toNatClampNeg) 205 s) = s1 at r2 r3 ⊢
      generalize zsnd (fX10_opens 10 v.toNatClampNeg t) = t1 at r2 r3 ⊢
      generalize zfst (fX10_opens 10 v.toNatClampNeg t) = b at r3 ⊢
      cases b with
      | false => rw [cond_false, cond_false]; unfold fX9_other_a3 fX10_other_a3; simp only [zfst_mk, zsnd_mk]; exact ⟨trivial, r2⟩
      | true =>
        rw [cond_true, cond_true]
        obtain ⟨x, y, -, -, y1, m1⟩ := r3 rfl
        unfold fX9_other_a2 fX10_other_a2
        dsimp only
        simp only [zfst_mk, zsnd_mk]
        exact ⟨trivial, put_oth r2 (msl_of e2).2 y1 m1⟩
theorem root_end {T : Nat} {s t : zSt} {c : Int} (u : Int32) (h : GI T s t) (hu : u.toNatClampNeg < 24) (x1 : zf s 203 (evn c) 1) (m1 : mf t 36 c 1) : zfst (fX9_root_a2 u s) = zfst (fX10_root_a4 u t) ∧ GI T (zsnd (fX9_root_a2 u s)) (zsnd (fX10_root_a4 u t)) := by
  unfold fX9_root_a2 fX10_root_a4 fX10_root_a2 fX10_root_a3
  dsimp only
  obtain ⟨b1, b2⟩ := cM_lowest m1 (by omega)
  have h1 := h.km (fun id j q => b1 id j (by omega) (by omega) (by omega)) (k2_fX10_lowest 36 t)
  have m2 := mf_row (t := zsnd (fX10_lowest 36 t)) m1 (fun j hj => b1 2 (16 * 36 + j) (by omega) (by omega) (by omega))
  rw [b2]
  clear b1 b2
  generalize zsnd (fX10_lowest 36 t) = t1 at h1 m2 ⊢
  unfold evn at x1
  generalize hr : c % 57896044618658097711785492504343953926634992332820282019728792003956564819949 = r at x1 ⊢
  have hb : r % 2 = 0 ∨ r % 2 = 1 := by omega
  cases hb with
  | inl q =>
    rw [if_neg (by omega)] at x1
    rw [q, if_pos (by decide)]
    simp only [zfst_mk, zsnd_mk]
    exact ⟨trivial, (put_fe h1 hu x1 m2 (by omega) (by omega)).1⟩
  | inr q =>
    rw [if_pos q] at x1
    rw [q, if_neg (by decide)]
    simp only [zfst_mk, zsnd_mk]
    obtain ⟨d1, d2'⟩ := cM_sub (r := 36) h1.2.1.1.1 m2 (by omega)
    rw [Int.zero_sub] at d2'
    exact ⟨trivial, (put_fe (h1.km (fun id j q => d1 id j (by omega)) (k2_fX10_subtract 36 0 36 t1)) hu x1 d2' (by omega) (by omega)).1⟩
theorem c_root {T : Nat} {s t : zSt} (a u : Int32) (h : GI T s t) : zfst (fX9_root a u s) = zfst (fX10_root a u t) ∧ GI T (zsnd (fX9_root a u s)) (zsnd (fX10_root a u t)) := by
  unfold fX9_root fX10_root
  rw [is_sl a s t]
  cases e : vX10_isSlot a t with
  | false => rw [cond_false, cond_false]; exact ⟨rfl, h⟩
  | true =>
    rw [cond_true, cond_true]
    unfold fX9_root_a6 fX10_root_a8
    rw [is_sl u s t]
    cases e2 : vX10_isSlot u t with
    | false => rw [cond_false, cond_false]; exact ⟨rfl, h⟩
    | true =>
      rw [cond_true, cond_true]
      unfold fX9_root_a4 fX10_root_a6
      dsimp only
      obtain ⟨r1, ⟨x, r2, r3⟩, -, -⟩ := ld_fe (P := 202) (r := 40) h (msl_of e).2 (by omega) (by omega)
      generalize fX1_load (11 + a.toNatClampNeg) 202 s = s1 at r1 r2 ⊢
      generalize fX10_load 40 a.toNatClampNeg t = t1 at r1 r3 ⊢
      obtain ⟨a1, a2, a3⟩ := cX_root (out := 203) r2 r1.1.1.1 r1.1.1.2.1 (by omega) (by omega) r1.1.1.2.2.2.2.2.2.2 (by omega) (by omega)
      obtain ⟨b1, b2, b3⟩ := cM_roots (r := 36) r3 r1.2.1.1.2.2.2.2.1 (by omega) (by omega) (by omega) (by omega) (by omega) (by omega) (by omega)
      rw [a2, b2]
      clear a2 b2
      have h2 := (r1.kx (fun id q => a1 id (by omega) (by omega)) (k2_fX1_findRoot 202 203 s1)).km (fun id j q => b1 id j (by omega) (by omega) (by omega) (by omega) (by omega) (by omega)) (k2_fX10_roots 36 40 t1)
      clear a1 b1
      generalize zsnd (fX1_findRoot 202 203 s1) = s2 at h2 a3 ⊢
      generalize zsnd (fX10_roots 36 40 t1) = t2 at h2 b3 ⊢
      generalize (rtv pRt cI x).2 = c at a3 b3
      generalize (rtv pRt cI x).1 = b at a3 ⊢
      cases b with
      | false => rw [cond_false, cond_false]; unfold fX9_root_a3 fX10_root_a5; simp only [zfst_mk, zsnd_mk]; exact ⟨trivial, h2⟩
      | true => rw [cond_true, cond_true]; exact root_end u h2 (msl_of e2).2 (a3 rfl) b3
