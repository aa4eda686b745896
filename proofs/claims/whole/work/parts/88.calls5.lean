/-! calls on both sides: field numbers from and to slots; across, small -/
theorem rd_xy {T v : Nat} {s t : zSt} (h : GI T s t) (hv : v < 24) (P p : Nat) (hP : 199 < P) (hp : 8 < p ∧ p + 3 < 26) (q : zfst (fX10_opens p v t) = true) : ∃ x y : Int, zf (zsnd (fX0_read (11 + v) P s)) (P + 0) x 1 ∧ mf (zsnd (fX10_opens p v t)) p x 1 ∧ zf (zsnd (fX0_read (11 + v) P s)) (P + 1) y 1 ∧ mf (zsnd (fX10_opens p v t)) (p + 1) y 1 := by
  obtain ⟨a1, a2, a3⟩ := cX_read (ws := 11 + v) (P := P) h.1.1 (by omega) (by omega)
  obtain ⟨b1, b2, b3, b4⟩ := cM_opens (p := p) (v := v) h.2.1 ⟨hp.1, by omega⟩
  have e : rN (s.1 (11 + v)) 4 = slM t v := h.2.2.2.1 v hv
  rw [e] at a3
  rw [b2] at q
  obtain ⟨-, a4, a5⟩ := a3 q
  obtain ⟨-, b5, b6⟩ := b4 q
  exact ⟨_, _, a4, b5, a5, b6⟩
/-- a field number is written to a slot -/
theorem put_fe {T u P r k m : Nat} {s t : zSt} {x : Int} (h : GI T s t) (hu : u < 24) (hA : zf s P x k) (hB : mf t r x m) (hk : k ≤ 8) (hm : m ≤ 8) : GI T (fX1_store P (11 + u) s) (fX10_store u r t) ∧ (∀ id, 41 < id → (fX1_store P (11 + u) s).1 id = s.1 id) ∧ (∀ j, j < 544 ∨ 560 ≤ j → (fX10_store u r t).1 2 j = t.1 2 j) := by
  have eF : fX10_store u r t = fX10_toSlot u 4 (fX10_pack 4 r t) := rfl
  rw [eF]
  clear eF
  obtain ⟨a1, a2⟩ := cX_store (ws := 11 + u) hA hk (by omega)
  have a3 := k2_fX1_store P (11 + u) s
  generalize fX1_store P (11 + u) s = s' at a1 a2 a3 ⊢
  obtain ⟨b1, b2⟩ := cM_pack (p := 4) hB hm
  have b3 := k2_fX10_pack 4 r t
  generalize fX10_pack 4 r t = t1 at b1 b2 b3 ⊢
  have e : rN (s'.1 (11 + u)) 4 = w4 t1 4 := Int.ofNat_inj.mp (a2.trans b2.symm)
  clear a2 b2
  obtain ⟨p1, p2, p3, p4⟩ := cM_to u 4 t1
  generalize fX10_toSlot u 4 t1 = t5 at p1 p2 p3 p4 ⊢
  have km : KM t t1 := KM_of (fun id j q => b1 id j (by omega) (by omega) (by omega)) b3
  have z4 : ∀ k, t5.2.2 k = t.2.2 k := fun k => by rw [p4, z2_I b3 k]
  exact ⟨h.put (u := u) (fun id q q2 => a1 id (by omega) q2) hu (km.1.trans ⟨fun j q => p1 2 j (by omega), fun j q q2 => p1 4 j (by omega), funext fun j => p1 5 j (by omega), funext fun j => p1 6 j (by omega)⟩) (fun w q => by rw [p3 w q, slM_row km.2.1]) (e.trans p2.symm) (z2_B a3 36) (fun k _ => z2_I a3 k) (by rw [p4]; exact km.2.2.1 1 (by omega) (by omega)) (fun k _ => z4 k) ((z4 5).trans h.h5), fun id q => a1 id (by omega) (by omega), fun j q => by rw [p1 2 j (by omega), b1 2 j (by omega) (by omega) (by omega)]⟩
/-- a slot is read as a field number -/
theorem ld_fe {T v P r : Nat} {s t : zSt} (h : GI T s t) (hv : v < 24) (hP : 199 < P) (hr : 8 < r) : GI T (fX1_load (11 + v) P s) (fX10_load r v t) ∧ (∃ x, zf (fX1_load (11 + v) P s) P x 1 ∧ mf (fX10_load r v t) r x 1) ∧ (∀ id, id ≠ P → (fX1_load (11 + v) P s).1 id = s.1 id) ∧ (∀ id j, ¬ (id = 2 ∧ 16 * r ≤ j ∧ j < 16 * r + 16) → ¬ (id = 4 ∧ 4 ≤ j ∧ j < 8) → (fX10_load r v t).1 id j = t.1 id j) := by
  have eF : fX10_load r v t = fX10_unpack r 4 (fX10_fromSlot 4 v t) := rfl
  rw [eF]
  clear eF
  obtain ⟨a1, a2⟩ := cX_load (ws := 11 + v) (out := P) (s := s) (by omega)
  have a3 := k2_fX1_load (11 + v) P s
  have e : rN (s.1 (11 + v)) 4 = slM t v := h.2.2.2.1 v hv
  rw [e] at a2
  obtain ⟨f1, f2, f3⟩ := cM_from 4 v t
  generalize fX10_fromSlot 4 v t = t1 at f1 f2 f3 ⊢
  obtain ⟨b1, b2⟩ := cM_unpack (r := r) (p := 4) (s := t1)
  have b3 := k2_fX10_unpack r 4 t1
  rw [f2] at b2
  exact ⟨h.keep (KX_of (fun id q => a1 id (by omega)) a3) (KM_of (fun id j q => by rw [b1 id j (by omega), f1 id j (by omega)]) (b3.trans (by show t1.2 = t.2; rw [f3]))) (by rw [z2_I b3 5, f3]; exact h.h5), ⟨_, a2, b2⟩, a1, fun id j q q2 => by rw [b1 id j q, f1 id j (by omega)]⟩
theorem pt_dbl {T P p : Nat} {s t : zSt} {A : Int × Int} (h : GI T s t) (hA : rX s P A) (mA : rM t p A) (hP : 199 < P) (hp : 8 < p ∧ p + 3 < 26) : GI T (fX0_twice P P s) (fX10_addPoint p p t) ∧ ∃ B, rX (fX0_twice P P s) P B ∧ rM (fX10_addPoint p p t) p B := by
  obtain ⟨a1, a2⟩ := cX_pdbl (S := P) hA (by omega) (by omega)
  have a3 := k2_fX0_twice P P s
  obtain ⟨b1, b2⟩ := cM_padd mA mA h.2.1.1.2.2.2.1 (by omega) (by omega)
  have b3 := k2_fX10_addPoint p p t
  exact ⟨h.keep (KX_of (fun id q => a1 id (by omega) (by omega) (by omega)) a3) (KM_of (fun id j q => b1 id j (by omega) (by omega) (by omega)) b3) ((z2_I b3 5).trans h.h5), _, a2, b2⟩
theorem pt_isn {T P p : Nat} {s t : zSt} {A : Int × Int} (h : GI T s t) (hA : rX s P A) (mA : rM t p A) (hP : 199 < P) (hp : 8 < p ∧ p + 3 < 26) : zfst (fX0_isNeutral P s) = zfst (fX10_isNeutral p t) ∧ GI T (zsnd (fX0_isNeutral P s)) (zsnd (fX10_isNeutral p t)) ∧ rX (zsnd (fX0_isNeutral P s)) P A ∧ rM (zsnd (fX10_isNeutral p t)) p A := by
  obtain ⟨a1, a2⟩ := cX_isn hA (by omega)
  have a3 := k2_fX0_isNeutral P s
  obtain ⟨b1, b2⟩ := cM_isn mA h.2.1.1.1 (by omega)
  have b3 := k2_fX10_isNeutral p t
  exact ⟨a2.trans b2.symm, h.keep (KX_of (fun id q => a1 id (by omega) (by omega)) a3) (KM_of (fun id j q => b1 id j (by omega) (by omega) (by omega)) b3) ((z2_I b3 5).trans h.h5), rX_row hA (fun i hi => a1 _ (by omega) (by omega)), rM_row mA (fun j q1 q2 => b1 2 j (by omega) (by omega) (by omega))⟩
theorem c_across {T : Nat} {s t : zSt} (v u : Int32) (h : GI T s t) : zfst (fX9_across v u s) = zfst (fX10_across v u t) ∧ GI T (zsnd (fX9_across v u s)) (zsnd (fX10_across v u t)) := by
  unfold fX9_across fX10_across
  rw [is_sl v s t]
  cases e : vX10_isSlot v t with
  | false => rw [cond_false, cond_false]; exact ⟨rfl, h⟩
  | true =>
    rw [cond_true, cond_true]
    unfold fX9_across_a6 fX10_across_a6
    rw [is_sl u s t]
    cases e2 : vX10_isSlot u t with
    | false => rw [cond_false, cond_false]; exact ⟨rfl, h⟩
    | true =>
      rw [cond_true, cond_true]
      unfold fX9_across_a4 fX10_across_a4
      dsimp only
      obtain ⟨r1, r2, -, -, -⟩ := rd_pt h (msl_of e).2 205 10 (by omega) (by omega)
      have r3 := rd_xy h (msl_of e).2 205 10 (by omega) (by omega)
      rw [r1]
      generalize zsnd (fX0_read (11 + v.toNatClampNeg) 205 s) = s1 at r2 r3 ⊢
      generalize zsnd (fX10_opens 10 v.toNatClampNeg t) = t1 at r2 r3 ⊢
      generalize zfst (fX10_opens 10 v.toNatClampNeg t) = b at r3 ⊢
      cases b with
      | false => rw [cond_false, cond_false]; unfold fX9_across_a3 fX10_across_a3; simp only [zfst_mk, zsnd_mk]; exact ⟨trivial, r2⟩
      | true =>
        rw [cond_true, cond_true]
        obtain ⟨x, y, x1, m1, -, -⟩ := r3 rfl
        unfold fX9_across_a2 fX10_across_a2
        dsimp only
        simp only [zfst_mk, zsnd_mk]
        exact ⟨trivial, (put_fe r2 (msl_of e2).2 x1 m1 (by omega) (by omega)).1⟩
theorem sm_4 {T : Nat} {s t : zSt} {A : Int × Int} (h : GI T s t) (x1 : rX s 205 A) (m1 : rM t 10 A) : zfst (fX9_small_a3 s) = zfst (fX10_small_a6 t) ∧ GI T (zsnd (fX9_small_a3 s)) (zsnd (fX10_small_a6 t)) := by
  unfold fX9_small_a3 fX10_small_a6
  dsimp only
  obtain ⟨h1, B, x2, m2⟩ := pt_dbl h x1 m1 (by omega) (by omega)
  generalize fX0_twice 205 205 s = s1 at h1 x2 ⊢
  generalize fX10_addPoint 10 10 t = t1 at h1 m2 ⊢
  obtain ⟨r1, h2, x3, m3⟩ := pt_isn h1 x2 m2 (by omega) (by omega)
  rw [r1]
  generalize zsnd (fX0_isNeutral 205 s1) = s2 at h2 x3 ⊢
  generalize zsnd (fX10_isNeutral 10 t1) = t2 at h2 m3 ⊢
  generalize zfst (fX10_isNeutral 10 t1) = b
  cases b with
  | true => rw [cond_true, cond_true]; unfold fX9_small_a2 fX10_small_a4; simp only [zfst_mk, zsnd_mk]; exact ⟨trivial, h2⟩
  | false =>
    rw [cond_false, cond_false]
    unfold fX9_small_a1 fX10_small_a5
    dsimp only
    simp only [zfst_mk, zsnd_mk]
    exact ⟨trivial, (pt_dbl h2 x3 m3 (by omega) (by omega)).1⟩
theorem sm_3 {T : Nat} {s t : zSt} {A : Int × Int} (h : GI T s t) (x1 : rX s 205 A) (m1 : rM t 10 A) : zfst (fX9_small_a5 s) = zfst (fX10_small_a7 t) ∧ GI T (zsnd (fX9_small_a5 s)) (zsnd (fX10_small_a7 t)) := by
  unfold fX9_small_a5 fX10_small_a7
  dsimp only
  obtain ⟨h1, B, x2, m2⟩ := pt_dbl h x1 m1 (by omega) (by omega)
  generalize fX0_twice 205 205 s = s1 at h1 x2 ⊢
  generalize fX10_addPoint 10 10 t = t1 at h1 m2 ⊢
  obtain ⟨r1, h2, x3, m3⟩ := pt_isn h1 x2 m2 (by omega) (by omega)
  rw [r1]
  generalize zsnd (fX0_isNeutral 205 s1) = s2 at h2 x3 ⊢
  generalize zsnd (fX10_isNeutral 10 t1) = t2 at h2 m3 ⊢
  generalize zfst (fX10_isNeutral 10 t1) = b
  cases b with
  | true => rw [cond_true, cond_true]; unfold fX9_small_a4 fX10_small_a3; simp only [zfst_mk, zsnd_mk]; exact ⟨trivial, h2⟩
  | false => rw [cond_false, cond_false]; exact sm_4 h2 x3 m3
theorem sm_2 {T : Nat} {s t : zSt} {A : Int × Int} (h : GI T s t) (x1 : rX s 205 A) (m1 : rM t 10 A) : zfst (fX9_small_a7 s) = zfst (fX10_small_a8 t) ∧ GI T (zsnd (fX9_small_a7 s)) (zsnd (fX10_small_a8 t)) := by
  unfold fX9_small_a7 fX10_small_a8
  dsimp only
  obtain ⟨h1, B, x2, m2⟩ := pt_dbl h x1 m1 (by omega) (by omega)
  generalize fX0_twice 205 205 s = s1 at h1 x2 ⊢
  generalize fX10_addPoint 10 10 t = t1 at h1 m2 ⊢
  obtain ⟨r1, h2, x3, m3⟩ := pt_isn h1 x2 m2 (by omega) (by omega)
  rw [r1]
  generalize zsnd (fX0_isNeutral 205 s1) = s2 at h2 x3 ⊢
  generalize zsnd (fX10_isNeutral 10 t1) = t2 at h2 m3 ⊢
  generalize zfst (fX10_isNeutral 10 t1) = b
  cases b with
  | true => rw [cond_true, cond_true]; unfold fX9_small_a6 fX10_small_a2; simp only [zfst_mk, zsnd_mk]; exact ⟨trivial, h2⟩
  | false => rw [cond_false, cond_false]; exact sm_3 h2 x3 m3
theorem sm_1 {T : Nat} {s t : zSt} {A : Int × Int} (h : GI T s t) (x1 : rX s 205 A) (m1 : rM t 10 A) : zfst (fX9_small_a9 s) = zfst (fX10_small_a9 t) ∧ GI T (zsnd (fX9_small_a9 s)) (zsnd (fX10_small_a9 t)) := by
  unfold fX9_small_a9 fX10_small_a9
  dsimp only
  obtain ⟨r1, h2, x3, m3⟩ := pt_isn h x1 m1 (by omega) (by omega)
  rw [r1]
  generalize zsnd (fX0_isNeutral 205 s) = s2 at h2 x3 ⊢
  generalize zsnd (fX10_isNeutral 10 t) = t2 at h2 m3 ⊢
  generalize zfst (fX10_isNeutral 10 t) = b
  cases b with
  | true => rw [cond_true, cond_true]; unfold fX9_small_a8 fX10_small_a1; simp only [zfst_mk, zsnd_mk]; exact ⟨trivial, h2⟩
  | false => rw [cond_false, cond_false]; exact sm_2 h2 x3 m3
theorem c_small {T : Nat} {s t : zSt} (a : Int32) (h : GI T s t) : zfst (fX9_small a s) = zfst (fX10_small a t) ∧ GI T (zsnd (fX9_small a s)) (zsnd (fX10_small a t)) := by
  unfold fX9_small fX10_small
  rw [is_sl a s t]
  cases e : vX10_isSlot a t with
  | false => rw [cond_false, cond_false]; exact ⟨rfl, h⟩
  | true =>
    rw [cond_true, cond_true]
    unfold fX9_small_a11 fX10_small_a11
    dsimp only
    obtain ⟨r1, r2, r3, -, -⟩ := rd_pt h (msl_of e).2 205 10 (by omega) (by omega)
    rw [r1]
    generalize zsnd (fX0_read (11 + a.toNatClampNeg) 205 s) = s1 at r2 r3 ⊢
    generalize zsnd (fX10_opens 10 a.toNatClampNeg t) = t1 at r2 r3 ⊢
    generalize zfst (fX10_opens 10 a.toNatClampNeg t) = b at r3 ⊢
    cases b with
    | false => rw [cond_false, cond_false]; unfold fX9_small_a10 fX10_small_a10; simp only [zfst_mk, zsnd_mk]; exact ⟨trivial, r2⟩
    | true =>
      rw [cond_true, cond_true]
      obtain ⟨A, x1, m1⟩ := r3 rfl
      exact sm_1 r2 x1 m1
