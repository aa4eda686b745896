/-! calls on both sides: points -/
/-- a slot read as a point on both sides -/
theorem rd_pt {T v : Nat} {s t : zSt} (h : GI T s t) (hv : v < 24) (P p : Nat) (hP : 199 < P) (hp : 8 < p ∧ p + 3 < 26) : zfst (fX0_read (11 + v) P s) = zfst (fX10_opens p v t) ∧ GI T (zsnd (fX0_read (11 + v) P s)) (zsnd (fX10_opens p v t))
      ∧ (zfst (fX10_opens p v t) = true → ∃ A, rX (zsnd (fX0_read (11 + v) P s)) P A ∧ rM (zsnd (fX10_opens p v t)) p A)
      ∧ (∀ id, 199 < id → ¬ (P ≤ id ∧ id ≤ P + 3) → (zsnd (fX0_read (11 + v) P s)).1 id = s.1 id) ∧ (∀ j, j < 416 → ¬ (16 * p ≤ j ∧ j < 16 * p + 64) → (zsnd (fX10_opens p v t)).1 2 j = t.1 2 j) := by
  have h0 := rd_rel h hv P p hP ⟨hp.1, by omega⟩
  obtain ⟨a1, a2, a3⟩ := cX_read (ws := 11 + v) (P := P) h.1.1 (by omega) (by omega)
  obtain ⟨b1, b2, b3, b4⟩ := cM_opens (p := p) (v := v) h.2.1 ⟨hp.1, by omega⟩
  have e : rN (s.1 (11 + v)) 4 = slM t v := h.2.2.2.1 v hv
  rw [e] at a3
  refine ⟨h0.1, h0.2, fun q => ?_, fun id q q2 => a1 id (by omega) (by omega) (by omega) (by omega) q2, fun j q q2 => b1 2 j (by omega) (by omega) (by omega) (by omega) (by omega) (by omega)⟩
  rw [b2] at q
  exact ⟨_, (a3 q).1, (b4 q).1⟩
/-- a point is written to a slot -/
theorem put_pt {T u P p : Nat} {s t : zSt} {A : Int × Int} (h : GI T s t) (hu : u < 24) (hA : rX s P A) (hB : rM t p A) (hP : 199 < P) (hp : p + 3 < 33) : GI T (fX0_write P (11 + u) s) (fX10_storePoint u p t) := by
  have eF : fX10_storePoint u p t = fX10_toSlot u 4 (fX10_bytes 4 p t) := rfl
  rw [eF]
  clear eF
  obtain ⟨a1, a2⟩ := cX_write (ws := 11 + u) hA h.1.1.2.2.2.2.2.2.1 (by omega) (by omega)
  have a3 := k2_fX0_write P (11 + u) s
  generalize fX0_write P (11 + u) s = s' at a1 a2 a3 ⊢
  obtain ⟨b1, b2⟩ := cM_bytes (p := 4) hB hp (by omega) (by omega)
  have b3 := k2_fX10_bytes 4 p t
  generalize fX10_bytes 4 p t = t1 at b1 b2 b3 ⊢
  have e : rN (s'.1 (11 + u)) 4 = w4 t1 4 := Int.ofNat_inj.mp (a2.trans b2.symm)
  clear a2 b2
  obtain ⟨p1, p2, p3, p4⟩ := cM_to u 4 t1
  generalize fX10_toSlot u 4 t1 = t5 at p1 p2 p3 p4 ⊢
  have km : KM t t1 := KM_of (fun id j q => b1 id j (by omega) (by omega) (by omega) (by omega) (by omega) (by omega)) b3
  have z4 : ∀ k, t5.2.2 k = t.2.2 k := fun k => by rw [p4, z2_I b3 k]
  exact h.put (u := u) (fun id q q2 => a1 id (by omega) (by omega) (by omega) (by omega) q2) hu (km.1.trans ⟨fun j q => p1 2 j (by omega), fun j q q2 => p1 4 j (by omega), funext fun j => p1 5 j (by omega), funext fun j => p1 6 j (by omega)⟩) (fun w q => by rw [p3 w q, slM_row km.2.1]) (e.trans p2.symm) (z2_B a3 36) (fun k _ => z2_I a3 k) (by rw [p4]; exact km.2.2.1 1 (by omega) (by omega)) (fun k _ => z4 k) ((z4 5).trans h.h5)
theorem pt_add {T P Q p q : Nat} {s t : zSt} {A B : Int × Int} (h : GI T s t) (hA : rX s P A) (hB : rX s Q B) (mA : rM t p A) (mB : rM t q B) (hP : 199 < P) (hQ : 199 < Q) (hp : 8 < p ∧ p + 3 < 26) (hq : q + 3 < 26) : GI T (fX0_add P Q P s) (fX10_addPoint p q t) ∧ rX (fX0_add P Q P s) P (ea A B) ∧ rM (fX10_addPoint p q t) p (ea A B)
      ∧ (∀ id, 199 < id → ¬ (P ≤ id ∧ id ≤ P + 3) → (fX0_add P Q P s).1 id = s.1 id) ∧ (∀ j, j < 416 → ¬ (16 * p ≤ j ∧ j < 16 * p + 64) → (fX10_addPoint p q t).1 2 j = t.1 2 j) := by
  obtain ⟨a1, a2⟩ := cX_padd (S := P) hA hB h.1.1.2.2.2.2.1 (by omega) (by omega) (by omega)
  have a3 := k2_fX0_add P Q P s
  obtain ⟨b1, b2⟩ := cM_padd mA mB h.2.1.1.2.2.2.1 (by omega) (by omega)
  have b3 := k2_fX10_addPoint p q t
  exact ⟨h.keep (KX_of (fun id q => a1 id (by omega) (by omega) (by omega)) a3) (KM_of (fun id j q => b1 id j (by omega) (by omega) (by omega)) b3) ((z2_I b3 5).trans h.h5), a2, b2, fun id q q2 => a1 id (by omega) (by omega) q2, fun j q q2 => b1 2 j (by omega) (by omega) (by omega)⟩
theorem pt_neg {T P p : Nat} {s t : zSt} {A : Int × Int} (h : GI T s t) (hA : rX s P A) (mA : rM t p A) (hP : 199 < P) (hp : 8 < p) : GI T (fX0_negate P s) (fX10_negate p t) ∧ rX (fX0_negate P s) P (en A) ∧ rM (fX10_negate p t) p (en A)
      ∧ (∀ id, ¬ (P ≤ id ∧ id ≤ P + 3) → (fX0_negate P s).1 id = s.1 id) ∧ (∀ j, ¬ (16 * p ≤ j ∧ j < 16 * p + 64) → (fX10_negate p t).1 2 j = t.1 2 j) := by
  obtain ⟨a1, a2⟩ := cX_pneg hA h.1.1.1 (by omega)
  have a3 := k2_fX0_negate P s
  obtain ⟨b1, b2⟩ := cM_pneg mA h.2.1.1.1 (by omega)
  have b3 := k2_fX10_negate p t
  exact ⟨h.keep (KX_of (fun id q => a1 id (by omega)) a3) (KM_of (fun id j q => b1 id j (by omega)) b3) ((z2_I b3 5).trans h.h5), a2, b2, fun id q => a1 id q, fun j q => b1 2 j (by omega)⟩
/-- the many of a point: the slot k, from P and p to S and r -/
theorem pt_mul {T P S p r k : Nat} {s t : zSt} {A : Int × Int} (h : GI T s t) (hk : k < 24) (hA : rX s P A) (mA : rM t p A) (hP : P = 67 ∨ 199 < P) (hS : 199 < S) (hp : 3 < p ∧ p + 3 < 26) (hr : 8 < r ∧ r + 3 < 26) (hpr : p + 3 < r ∨ r + 3 < p) : GI T (fX0_multiply (11 + k) P S s) (fX10_many r p 20 (fX10_fromSlot 20 k t)) ∧ ∃ B, rX (fX0_multiply (11 + k) P S s) S B ∧ rM (fX10_many r p 20 (fX10_fromSlot 20 k t)) r B := by
  obtain ⟨a1, a2⟩ := cX_mulp (S := S) (ws := 11 + k) hA h.1.1.2.2.2.2.1 (by omega) (by omega) (by omega)
  have a3 := k2_fX0_multiply (11 + k) P S s
  have e : rN (s.1 (11 + k)) 4 = slM t k := h.2.2.2.1 k hk
  rw [e] at a2
  obtain ⟨f1, f2, f3⟩ := cM_from 20 k t
  generalize fX10_fromSlot 20 k t = t1 at f1 f2 f3 ⊢
  have km : KM t t1 := KM_of (fun id j q => f1 id j (by omega)) (by show t1.2 = t.2; rw [f3])
  obtain ⟨b1, b2⟩ := cM_many (r := r) (e := 20) (rM_row (t := t1) mA (fun j _ _ => f1 2 j (by omega))) (CM_keep h.2.1 km.1).1.2.2.2.1 (by omega) (by omega) hpr
  have b3 := k2_fX10_many r p 20 t1
  rw [f2] at b2
  exact ⟨h.keep (KX_of (fun id q => a1 id (by omega) (by omega) (by omega) (by omega)) a3) (km.trans (KM_of (fun id j q => b1 id j (by omega) (by omega) (by omega)) b3)) (by rw [z2_I b3 5, f3]; exact h.h5), _, a2, b2⟩
theorem c_base {T : Nat} {s t : zSt} (k u : Int32) (h : GI T s t) : zfst (fX9_base k u s) = zfst (fX10_base k u t) ∧ GI T (zsnd (fX9_base k u s)) (zsnd (fX10_base k u t)) := by
  unfold fX9_base fX10_base
  rw [is_sl k s t]
  cases e : vX10_isSlot k t with
  | false => rw [cond_false, cond_false]; exact ⟨rfl, h⟩
  | true =>
    rw [cond_true, cond_true]
    unfold fX9_base_a6 fX10_base_a6
    rw [is_sl u s t]
    cases e2 : vX10_isSlot u t with
    | false => rw [cond_false, cond_false]; exact ⟨rfl, h⟩
    | true =>
      rw [cond_true, cond_true]
      unfold fX9_base_a4 fX10_base_a4
      have en := h.nm 0 (by omega)
      by_cases q : nI 1 ≤ t.2.2 1
      · rw [if_pos (en ▸ q), if_pos q]
        unfold fX9_base_a2 fX10_base_a2
        dsimp only
        simp only [zfst_mk, zsnd_mk]
        have h1 := h.sub0 (nI 1)
        generalize zI s 0 (s.2.2 0 - nI 1) = s1 at h1 ⊢
        generalize zI t 1 (t.2.2 1 - nI 1) = t1 at h1 ⊢
        obtain ⟨h2, B, x2, m2⟩ := pt_mul (P := 67) (S := 210) (p := 5) (r := 18) h1 (msl_of e).2 h1.1.2.2 h1.2.1.2 (by omega) (by omega) (by omega) (by omega) (by omega)
        exact ⟨trivial, put_pt h2 (msl_of e2).2 x2 m2 (by omega) (by omega)⟩
      · rw [if_neg (en ▸ q), if_neg q]
        exact ⟨rfl, h⟩
theorem c_times {T : Nat} {s t : zSt} (k a u : Int32) (h : GI T s t) : zfst (fX9_times k a u s) = zfst (fX10_times k a u t) ∧ GI T (zsnd (fX9_times k a u s)) (zsnd (fX10_times k a u t)) := by
  unfold fX9_times fX10_times
  rw [is_sl k s t]
  cases e : vX10_isSlot k t with
  | false => rw [cond_false, cond_false]; exact ⟨rfl, h⟩
  | true =>
    rw [cond_true, cond_true]
    unfold fX9_times_a10 fX10_times_a10
    rw [is_sl a s t]
    cases e1 : vX10_isSlot a t with
    | false => rw [cond_false, cond_false]; exact ⟨rfl, h⟩
    | true =>
      rw [cond_true, cond_true]
      unfold fX9_times_a9 fX10_times_a9
      rw [is_sl u s t]
      cases e2 : vX10_isSlot u t with
      | false => rw [cond_false, cond_false]; exact ⟨rfl, h⟩
      | true =>
        rw [cond_true, cond_true]
        unfold fX9_times_a7 fX10_times_a7
        have en := h.nm 0 (by omega)
        by_cases q : nI 1 ≤ t.2.2 1
        · rw [if_pos (en ▸ q), if_pos q]
          unfold fX9_times_a5 fX10_times_a5
          dsimp only
          obtain ⟨r1, r2, r3, -, -⟩ := rd_pt h (msl_of e1).2 205 10 (by omega) (by omega)
          rw [r1]
          generalize zsnd (fX0_read (11 + a.toNatClampNeg) 205 s) = s1 at r2 r3 ⊢
          generalize zsnd (fX10_opens 10 a.toNatClampNeg t) = t1 at r2 r3 ⊢
          generalize zfst (fX10_opens 10 a.toNatClampNeg t) = b at r3 ⊢
          cases b with
          | false => rw [cond_false, cond_false]; unfold fX9_times_a4 fX10_times_a4; simp only [zfst_mk, zsnd_mk]; exact ⟨trivial, r2⟩
          | true =>
            rw [cond_true, cond_true]
            obtain ⟨A, x1, m1⟩ := r3 rfl
            unfold fX9_times_a3 fX10_times_a3
            dsimp only
            simp only [zfst_mk, zsnd_mk]
            have h1 := r2.sub0 (nI 1)
            have x1' := rX_row (t := zI s1 0 (s1.2.2 0 - nI 1)) x1 (fun _ _ => rfl)
            have m1' := rM_row (t := zI t1 1 (t1.2.2 1 - nI 1)) m1 (fun _ _ _ => rfl)
            generalize zI s1 0 (s1.2.2 0 - nI 1) = s2 at h1 x1' ⊢
            generalize zI t1 1 (t1.2.2 1 - nI 1) = t2 at h1 m1' ⊢
            obtain ⟨h2, B, x2, m2⟩ := pt_mul (P := 205) (S := 210) (p := 10) (r := 18) h1 (msl_of e).2 x1' m1' (by omega) (by omega) (by omega) (by omega) (by omega)
            exact ⟨trivial, put_pt h2 (msl_of e2).2 x2 m2 (by omega) (by omega)⟩
        · rw [if_neg (en ▸ q), if_neg q]
          exact ⟨rfl, h⟩
theorem c_sum {T : Nat} {s t : zSt} (w a b u : Int32) (h : GI T s t) : zfst (fX9_sum w a b u s) = zfst (fX10_sum w a b u t) ∧ GI T (zsnd (fX9_sum w a b u s)) (zsnd (fX10_sum w a b u t)) := by
  unfold fX9_sum fX10_sum
  rw [is_sl a s t]
  cases e : vX10_isSlot a t with
  | false => rw [cond_false, cond_false]; exact ⟨rfl, h⟩
  | true =>
    rw [cond_true, cond_true]
    unfold fX9_sum_a14 fX10_sum_a14
    rw [is_sl b s t]
    cases e1 : vX10_isSlot b t with
    | false => rw [cond_false, cond_false]; exact ⟨rfl, h⟩
    | true =>
      rw [cond_true, cond_true]
      unfold fX9_sum_a13 fX10_sum_a13
      rw [is_sl u s t]
      cases e2 : vX10_isSlot u t with
      | false => rw [cond_false, cond_false]; exact ⟨rfl, h⟩
      | true =>
        rw [cond_true, cond_true]
        unfold fX9_sum_a11 fX10_sum_a11
        rw [is_in w 1 s t (by omega)]
        cases e3 : vX10_in w (nI 0) (nI 1) t with
        | false => rw [cond_false, cond_false]; exact ⟨rfl, h⟩
        | true =>
          rw [cond_true, cond_true]
          unfold fX9_sum_a9 fX10_sum_a9
          dsimp only
          obtain ⟨r1, r2, r3, -, -⟩ := rd_pt h (msl_of e).2 205 10 (by omega) (by omega)
          rw [r1]
          generalize zsnd (fX0_read (11 + a.toNatClampNeg) 205 s) = s1 at r2 r3 ⊢
          generalize zsnd (fX10_opens 10 a.toNatClampNeg t) = t1 at r2 r3 ⊢
          generalize zfst (fX10_opens 10 a.toNatClampNeg t) = b1 at r3 ⊢
          cases b1 with
          | false => rw [cond_false, cond_false]; unfold fX9_sum_a3 fX10_sum_a3; simp only [zfst_mk, zsnd_mk]; exact ⟨trivial, r2⟩
          | true =>
            rw [cond_true, cond_true]
            obtain ⟨A, x1, m1⟩ := r3 rfl
            unfold fX9_sum_a8 fX10_sum_a8
            dsimp only
            obtain ⟨o1, o2, o3, o4, o5⟩ := rd_pt r2 (msl_of e1).2 210 14 (by omega) (by omega)
            rw [o1]
            have x1 := rX_row (t := zsnd (fX0_read (11 + b.toNatClampNeg) 210 s1)) x1 (fun i hi => o4 (205 + i) (by omega) (by omega))
            have m1 := rM_row (t := zsnd (fX10_opens 14 b.toNatClampNeg t1)) m1 (fun j q1 q2 => o5 j (by omega) (by omega))
            generalize zsnd (fX0_read (11 + b.toNatClampNeg) 210 s1) = s2 at o2 o3 x1 ⊢
            generalize zsnd (fX10_opens 14 b.toNatClampNeg t1) = t2 at o2 o3 m1 ⊢
            generalize zfst (fX10_opens 14 b.toNatClampNeg t1) = b2 at o3 ⊢
            cases b2 with
            | false => rw [cond_false, cond_false]; unfold fX9_sum_a7 fX10_sum_a7; simp only [zfst_mk, zsnd_mk]; exact ⟨trivial, o2⟩
            | true =>
              rw [cond_true, cond_true]
              obtain ⟨B, x2, m2⟩ := o3 rfl
              unfold fX9_sum_a6 fX10_sum_a6
              by_cases q : w.toNatClampNeg ≠ 1
              · rw [if_pos q, if_pos q]
                unfold fX9_sum_a4 fX10_sum_a4
                dsimp only
                simp only [zfst_mk, zsnd_mk]
                obtain ⟨i1, i2, i3, -, -⟩ := pt_add (P := 205) (Q := 210) (p := 10) (q := 14) o2 x1 x2 m1 m2 (by omega) (by omega) (by omega) (by omega)
                exact ⟨trivial, put_pt i1 (msl_of e2).2 i2 i3 (by omega) (by omega)⟩
              · rw [if_neg q, if_neg q]
                unfold fX9_sum_a5 fX10_sum_a5
                dsimp only
                simp only [zfst_mk, zsnd_mk]
                obtain ⟨g1, g2, g3, g4, g5⟩ := pt_neg (P := 210) (p := 14) o2 x2 m2 (by omega) (by omega)
                have x1 := rX_row (t := fX0_negate 210 s2) x1 (fun i hi => g4 (205 + i) (by omega))
                have m1 := rM_row (t := fX10_negate 14 t2) m1 (fun j q1 q2 => g5 j (by omega))
                generalize fX0_negate 210 s2 = s3 at g1 g2 x1 ⊢
                generalize fX10_negate 14 t2 = t3 at g1 g3 m1 ⊢
                obtain ⟨i1, i2, i3, -, -⟩ := pt_add (P := 205) (Q := 210) (p := 10) (q := 14) g1 x1 g2 m1 g3 (by omega) (by omega) (by omega) (by omega)
                exact ⟨trivial, put_pt i1 (msl_of e2).2 i2 i3 (by omega) (by omega)⟩
