/-! calls on both sides: isPoint, sign, judge, digest -/
theorem told_t (s : zSt) : vX9_told true s = nI 1 := rfl
theorem told_f (s : zSt) : vX9_told false s = nI 0 := rfl
/-- a slot is read as a point: alike, and no slot is written -/
theorem rd_rel {T v : Nat} {s t : zSt} (h : GI T s t) (hv : v < 24) (P p : Nat) (hP : 199 < P) (hp : 8 < p ∧ p + 3 < 33) : zfst (fX0_read (11 + v) P s) = zfst (fX10_opens p v t) ∧ GI T (zsnd (fX0_read (11 + v) P s)) (zsnd (fX10_opens p v t)) := by
  obtain ⟨a1, a2, -⟩ := cX_read (ws := 11 + v) (P := P) h.1.1 (by omega) (by omega)
  have a3 := k2_fX0_read (11 + v) P s
  obtain ⟨b1, b2, b3, -⟩ := cM_opens (p := p) (v := v) h.2.1 hp
  rw [a2, b2]
  refine ⟨congrArg rok (h.2.2.2.1 v hv), h.keep (KX_of (fun id q => a1 id (by omega) (by omega) (by omega) (by omega) (by omega)) a3) (KM_of (fun id j q => b1 id j (by omega) (by omega) (by omega) (by omega) (by omega) (by omega)) b3) ((z2_I b3 5).trans h.h5)⟩
theorem ip_X {v : Int32} {s t4 : zSt} {b : Bool} (e1 : zfst (fX0_read (11 + v.toNatClampNeg) 205 s) = b) (e2 : zsnd (fX0_read (11 + v.toNatClampNeg) 205 s) = t4) : fX9_isPoint_a1 v s = (vX9_told b t4, t4) := by
  unfold fX9_isPoint_a1
  dsimp only
  rw [e1, e2]
theorem ip_M {v : Int32} {s t4 : zSt} {b : Bool} (e1 : zfst (fX10_opens 10 v.toNatClampNeg s) = b) (e2 : zsnd (fX10_opens 10 v.toNatClampNeg s) = t4) : fX10_isPoint_a3 v s = bif b then fX10_isPoint_a2 t4 else fX10_isPoint_a1 t4 := by
  unfold fX10_isPoint_a3
  dsimp only
  rw [e1, e2]
theorem GI.sub0 {T : Nat} {s t : zSt} (x : Int32) (h : GI T s t) : GI T (zI s 0 (s.2.2 0 - x)) (zI t 1 (t.2.2 1 - x)) := h.sub (k := 0) x (by omega)
theorem GI.add1 {T : Nat} {s t : zSt} (x : Int32) (h : GI T s t) : GI T (zI s 1 (s.2.2 1 + x)) (zI t 2 (t.2.2 2 + x)) := h.add (k := 1) x (by omega)
theorem GI.add2 {T : Nat} {s t : zSt} (x : Int32) (h : GI T s t) : GI T (zI s 2 (s.2.2 2 + x)) (zI t 3 (t.2.2 3 + x)) := h.add (k := 2) x (by omega)
theorem GI.add3 {T : Nat} {s t : zSt} (x : Int32) (h : GI T s t) : GI T (zI s 3 (s.2.2 3 + x)) (zI t 4 (t.2.2 4 + x)) := h.add (k := 3) x (by omega)
theorem told_m {T : Nat} {s1 t1 : zSt} (b : Bool) (h : GI T s1 t1) : zfst (vX9_told b s1, s1) = zfst (bif b then fX10_isPoint_a2 t1 else fX10_isPoint_a1 t1) ∧ GI T (zsnd (vX9_told b s1, s1)) (zsnd (bif b then fX10_isPoint_a2 t1 else fX10_isPoint_a1 t1)) := by
  unfold fX10_isPoint_a1 fX10_isPoint_a2
  cases b with
  | false => rw [cond_false, told_f]; simp only [zfst_mk, zsnd_mk]; exact ⟨trivial, h⟩
  | true => rw [cond_true, told_t]; simp only [zfst_mk, zsnd_mk]; exact ⟨trivial, h⟩
theorem c_isPoint {T : Nat} {s t : zSt} (v : Int32) (h : GI T s t) : zfst (fX9_isPoint v s) = zfst (fX10_isPoint v t) ∧ GI T (zsnd (fX9_isPoint v s)) (zsnd (fX10_isPoint v t)) := by
  unfold fX9_isPoint fX10_isPoint
  rw [is_sl v s t]
  cases e : vX10_isSlot v t with
  | false => rw [cond_false, cond_false]; exact ⟨rfl, h⟩
  | true =>
    rw [cond_true, cond_true]
    obtain ⟨r1, r2⟩ := rd_rel h (msl_of e).2 205 10 (by omega) (by omega)
    rw [ip_X (v := v) (s := s) r1 rfl, ip_M (v := v) (s := t) rfl rfl]
    generalize zsnd (fX0_read (11 + v.toNatClampNeg) 205 s) = s1 at r2 ⊢
    generalize zsnd (fX10_opens 10 v.toNatClampNeg t) = t1 at r2 ⊢
    exact told_m (zfst (fX10_opens 10 v.toNatClampNeg t)) r2
theorem put_sig {T a u : Nat} {s t : zSt} (h : GI T s t) (ha : a < 24) (hu : u + 1 < 24) : GI T (fX6_makeSignature (11 + a) (11 + u) (11 + (u + 1)) T s) (fX10_toSlot (u + 1) 12 (fX10_toSlot u 44 (sgM a T t))) := by
  rw [sgX_eq]
  obtain ⟨k1, k2, k3, k4, k5, k6, k7⟩ := sig_rel (ws := 11 + a) (v := a) (oR := 11 + u) (oS := 11 + (u + 1)) (T := T) (h.2.2.2.1 a ha) h.1 h.2.1 h.2.2.1 h.2.2.2.2.2.2.2.1 h.2.2.2.2.1 (by omega) (by omega) (by omega)
  generalize sgX (11 + a) (11 + u) (11 + (u + 1)) T s = s' at k1 k2 k3 k4 k5 ⊢
  generalize sgM a T t = t1 at k1 k2 k6 k7 ⊢
  obtain ⟨p1, p2, p3, p4⟩ := cM_to u 44 t1
  have pw : w4 (fX10_toSlot u 44 t1) 12 = w4 t1 12 := w4_keep (fun j hj => p1 4 (12 + j) (by omega))
  generalize fX10_toSlot u 44 t1 = t2 at p1 p2 p3 p4 pw ⊢
  obtain ⟨q1, q2, q3, q4⟩ := cM_to (u + 1) 12 t2
  generalize fX10_toSlot (u + 1) 12 t2 = t3 at q1 q2 q3 q4 ⊢
  refine h.next (fun id q => k3 id (by omega) (by omega) (by omega)) (k6.1.trans ⟨fun j q => by rw [q1 2 j (by omega), p1 2 j (by omega)], fun j q q2 => by rw [q1 4 j (by omega), p1 4 j (by omega)], funext fun j => by rw [q1 5 j (by omega), p1 5 j (by omega)], funext fun j => by rw [q1 6 j (by omega), p1 6 j (by omega)]⟩) (fun v hv => ?_) (k4 36 (by omega)) (fun k _ => k5 k (by omega)) (by rw [q4, p4]; exact k6.2.2.1 1 (by omega) (by omega)) (fun k _ => by rw [q4, p4]; exact k6.2.2.2 k (by omega)) (by rw [q4, p4]; exact k7)
  by_cases e1 : v = u + 1
  · rw [e1, q2, pw, ← k2]
    rfl
  · by_cases e2 : v = u
    · rw [q3 v e1, e2, p2, ← k1]
      rfl
    · rw [q3 v e1, p3 v e2, slM_row k6.2.1, ← h.2.2.2.1 v hv]
      unfold slX
      rw [k3 (11 + v) (by omega) (by omega) (by omega)]
theorem sgM_a {a t : Int32} {T : Nat} {s t1 t28 : zSt} (e1 : t1 = zI s 1 (s.2.2 1 - nI 2)) (e : t28 = fX10_toSlot (t.toNatClampNeg + 1) 12 (fX10_toSlot t.toNatClampNeg 44 (sgM a.toNatClampNeg T t1))) : fX10_sign_a3 a t T s = (nI 1, zI t28 2 (t28.2.2 2 + nI 1)) := by
  unfold sgM at e
  unfold fX10_sign_a3
  dsimp only
  rw [← e1, ← e]
theorem sgX_a {a t : Int32} {T : Nat} {s t1 t28 : zSt} (e1 : t1 = zI s 0 (s.2.2 0 - nI 2)) (e : t28 = fX6_makeSignature (11 + a.toNatClampNeg) (11 + t.toNatClampNeg) (11 + (t.toNatClampNeg + 1)) T t1) : fX9_sign_a2 a t T s = (nI 1, zI t28 1 (t28.2.2 1 + nI 1)) := by
  unfold fX9_sign_a2
  dsimp only
  rw [← e1, ← e]
theorem c_sign {T : Nat} {s t : zSt} (a u : Int32) (h : GI T s t) : zfst (fX9_sign a u T s) = zfst (fX10_sign a u T t) ∧ GI T (zsnd (fX9_sign a u T s)) (zsnd (fX10_sign a u T t)) := by
  unfold fX9_sign fX10_sign
  rw [is_sl a s t]
  cases e : vX10_isSlot a t with
  | false => rw [cond_false, cond_false]; exact ⟨rfl, h⟩
  | true =>
    rw [cond_true, cond_true]
    unfold fX9_sign_a6 fX10_sign_a8
    cases e2 : vX10_isSlot u t with
    | false => rw [pr_1 s e2, cond_false, cond_false]; exact ⟨rfl, h⟩
    | true =>
      rw [pr_2 s e2, cond_true]
      unfold fX10_sign_a7
      cases e3 : vX10_isSlot (nI (u.toNatClampNeg + 1)) t with
      | false => rw [cond_false, cond_false]; exact ⟨rfl, h⟩
      | true =>
        rw [cond_true, cond_true]
        unfold fX9_sign_a4 fX10_sign_a5
        have en := h.nm 0 (by omega)
        by_cases q : nI 2 ≤ t.2.2 1
        · rw [if_pos (en ▸ q), if_pos q, sgM_a rfl rfl, sgX_a rfl rfl]
          simp only [zfst_mk, zsnd_mk]
          have hu := (msl_of e2).2
          have h1 := h.sub0 (nI 2)
          generalize zI s 0 (s.2.2 0 - nI 2) = s1 at h1 ⊢
          generalize zI t 1 (t.2.2 1 - nI 2) = t1 at h1 ⊢
          have h2 := put_sig h1 (msl_of e).2 (msl_N (by omega) e3)
          generalize fX6_makeSignature (11 + a.toNatClampNeg) (11 + u.toNatClampNeg) (11 + (u.toNatClampNeg + 1)) T s1 = s2 at h2 ⊢
          generalize fX10_toSlot (u.toNatClampNeg + 1) 12 (fX10_toSlot u.toNatClampNeg 44 (sgM a.toNatClampNeg T t1)) = t2 at h2 ⊢
          exact ⟨trivial, h2.add1 (nI 1)⟩
        · rw [if_neg (en ▸ q), if_neg q]
          exact ⟨rfl, h⟩
theorem c_judge {T : Nat} {s t : zSt} (a u : Int32) (h : GI T s t) : zfst (fX9_judge a u T s) = zfst (fX10_judge a u T t) ∧ GI T (zsnd (fX9_judge a u T s)) (zsnd (fX10_judge a u T t)) := by
  unfold fX9_judge fX10_judge
  rw [is_sl a s t]
  cases e : vX10_isSlot a t with
  | false => rw [cond_false, cond_false]; exact ⟨rfl, h⟩
  | true =>
    rw [cond_true, cond_true]
    unfold fX9_judge_a8 fX10_judge_a10
    cases e2 : vX10_isSlot u t with
    | false => rw [pr_1 s e2, cond_false, cond_false]; exact ⟨rfl, h⟩
    | true =>
      rw [pr_2 s e2, cond_true]
      unfold fX10_judge_a9
      cases e3 : vX10_isSlot (nI (u.toNatClampNeg + 1)) t with
      | false => rw [cond_false, cond_false]; exact ⟨rfl, h⟩
      | true =>
        rw [cond_true, cond_true]
        unfold fX9_judge_a6 fX10_judge_a7
        have en := h.nm 0 (by omega)
        by_cases q : nI 2 ≤ t.2.2 1
        · rw [if_pos (en ▸ q), if_pos q]
          unfold fX9_judge_a4 fX10_judge_a5
          dsimp only
          have ha := (msl_of e).2
          have hu := (msl_of e2).2
          have hu1 : u.toNatClampNeg + 1 < 24 := msl_N (by omega) e3
          have h' := (h.sub0 (nI 2)).add2 (nI 1)
          generalize a.toNatClampNeg = a at ha ⊢
          generalize u.toNatClampNeg = u at hu hu1 ⊢
          generalize zI (zI s 0 (s.2.2 0 - nI 2)) 2 ((zI s 0 (s.2.2 0 - nI 2)).2.2 2 + nI 1) = s1 at h' ⊢
          generalize zI (zI t 1 (t.2.2 1 - nI 2)) 3 ((zI t 1 (t.2.2 1 - nI 2)).2.2 3 + nI 1) = t1 at h' ⊢
          obtain ⟨r1, r2, r3, r4⟩ := rgt_rel (k1 := 11 + a) (r1 := 11 + u) (s1 := 11 + (u + 1)) (a := a) (b := u) (T := T) (h'.2.2.2.1 a ha) (h'.2.2.2.1 u hu) (h'.2.2.2.1 (u + 1) hu1) h'.1 h'.2.1 h'.2.2.1 h'.2.2.2.2.2.2.2.1 h'.2.2.2.2.1 (by omega) (by omega) (by omega) h'.h5
          have h2 := h'.keep r2 r3 r4
          rw [r1]
          generalize zsnd (fX6_isRight (11 + a) (11 + u) (11 + (u + 1)) T s1) = s2 at h2 ⊢
          generalize zsnd (fX10_isRight a u T t1) = t2 at h2 ⊢
          cases zfst (fX10_isRight a u T t1) with
          | false => rw [cond_false, cond_false]; exact ⟨rfl, h2⟩
          | true => rw [cond_true, cond_true]; exact ⟨rfl, h2.add3 (nI 1)⟩
        · rw [if_neg (en ▸ q), if_neg q]
          exact ⟨rfl, h⟩
