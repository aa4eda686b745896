/-! signatures judged on both sides -/
theorem blo_eq {s1 : Nat} {s : zSt} (hL : rN (s.1 4) 4 = 7237005577332262213973186563042994240857116359379907606001950938285454250989) : vX4_isBelowOrder s1 s = decide (rN (s.1 s1) 4 < 7237005577332262213973186563042994240857116359379907606001950938285454250989) := by
  have h : 0 ≤ vX8_order s1 4 s ↔ 7237005577332262213973186563042994240857116359379907606001950938285454250989 ≤ rN (s.1 s1) 4 := by rw [vX8_order_eq, cmp3_ge, hL]
  unfold vX4_isBelowOrder fX4_isBelowOrder_a1 fX4_isBelowOrder_a2
  by_cases q : rN (s.1 s1) 4 < 7237005577332262213973186563042994240857116359379907606001950938285454250989
  · rw [if_neg (fun z => by have := h.mp z; omega), decide_eq_true q]
  · rw [if_pos (h.mpr (by omega)), decide_eq_false q]
def rgX (s1 : Nat) (t10 : zSt) : zSt := ziter fX6_isRight_139 0 3 (fX0_add 196 186 196 (fX0_multiply s1 67 196 (fX0_negate 186 (fX0_add 186 191 186 (fX0_multiply 184 186 186 t10)))))
theorem ri_0 {k1 r1 s1 T : Nat} {s : zSt} (h : vX4_isBelowOrder s1 s = false) : fX6_isRight k1 r1 s1 T s = (false, s) := by
  unfold fX6_isRight
  rw [h, cond_false]
  rfl
theorem ri_1 {k1 r1 s1 T : Nat} {s : zSt} (h : vX4_isBelowOrder s1 s = true) (h1 : zfst (fX0_read k1 186 s) = false) : fX6_isRight k1 r1 s1 T s = (false, zsnd (fX0_read k1 186 s)) := by
  unfold fX6_isRight
  rw [h, cond_true]
  unfold fX6_isRight_a5
  dsimp only
  rw [h1, cond_false]
  rfl
theorem ri_2 {k1 r1 s1 T : Nat} {s t3 : zSt} (h : vX4_isBelowOrder s1 s = true) (h1 : zfst (fX0_read k1 186 s) = true) (e : t3 = zsnd (fX0_read k1 186 s)) (h2 : zfst (fX0_read r1 191 t3) = false) : fX6_isRight k1 r1 s1 T s = (false, zsnd (fX0_read r1 191 t3)) := by
  subst e
  unfold fX6_isRight
  rw [h, cond_true]
  unfold fX6_isRight_a5
  dsimp only
  rw [h1, cond_true]
  unfold fX6_isRight_a4
  dsimp only
  rw [h2, cond_false]
  rfl
theorem ri_3 {k1 r1 s1 T : Nat} {s t3 t10 : zSt} (h : vX4_isBelowOrder s1 s = true) (h1 : zfst (fX0_read k1 186 s) = true) (e : t3 = zsnd (fX0_read k1 186 s)) (h2 : zfst (fX0_read r1 191 t3) = true) (e2 : t10 = fX6_findChallenge r1 k1 T (zsnd (fX0_read r1 191 t3))) : fX6_isRight k1 r1 s1 T s = (zfst (fX0_isNeutral 196 (rgX s1 t10)), zsnd (fX0_isNeutral 196 (rgX s1 t10))) := by
  rw [e] at h2 e2
  unfold fX6_isRight
  rw [h, cond_true]
  unfold fX6_isRight_a5
  dsimp only
  rw [h1, cond_true]
  unfold fX6_isRight_a4
  dsimp only
  rw [h2, cond_true]
  unfold fX6_isRight_a2 rgX
  dsimp only
  rw [← e2]
def rgM (t18 : zSt) : zSt := fX10_addPoint 18 22 (fX10_negate 22 (fX10_eightTimes 22 (fX10_addPoint 22 14 (fX10_many 22 10 20 (fX10_eightTimes 18 (fX10_many 18 5 8 t18))))))
theorem mi_0 {a b T : Nat} {s t1 : zSt} (e : t1 = fX10_fromSlot 8 (b + 1) s) (h : 0 ≤ vX10_against 8 32 t1) : fX10_isRight a b T s = (false, t1) := by
  subst e
  unfold fX10_isRight
  dsimp only
  rw [if_pos h]
  rfl
theorem mi_1 {a b T : Nat} {s t1 : zSt} (e : t1 = fX10_fromSlot 8 (b + 1) s) (h : ¬ 0 ≤ vX10_against 8 32 t1) (h1 : zfst (fX10_opens 10 a t1) = false) : fX10_isRight a b T s = (false, zsnd (fX10_opens 10 a t1)) := by
  subst e
  unfold fX10_isRight
  dsimp only
  rw [if_neg h]
  unfold fX10_isRight_a6
  dsimp only
  rw [h1, cond_false]
  rfl
theorem mi_2 {a b T : Nat} {s t1 t5 : zSt} (e : t1 = fX10_fromSlot 8 (b + 1) s) (h : ¬ 0 ≤ vX10_against 8 32 t1) (h1 : zfst (fX10_opens 10 a t1) = true) (e5 : t5 = zsnd (fX10_opens 10 a t1)) (h2 : zfst (fX10_opens 14 b t5) = false) : fX10_isRight a b T s = (false, zsnd (fX10_opens 14 b t5)) := by
  subst e5
  subst e
  unfold fX10_isRight
  dsimp only
  rw [if_neg h]
  unfold fX10_isRight_a6
  dsimp only
  rw [h1, cond_true]
  unfold fX10_isRight_a5
  dsimp only
  rw [h2, cond_false]
  rfl
theorem mi_3 {a b T : Nat} {s t1 t5 t18 : zSt} (e : t1 = fX10_fromSlot 8 (b + 1) s) (h : ¬ 0 ≤ vX10_against 8 32 t1) (h1 : zfst (fX10_opens 10 a t1) = true) (e5 : t5 = zsnd (fX10_opens 10 a t1)) (h2 : zfst (fX10_opens 14 b t5) = true) (e8 : t18 = fX10_digestScalar 20 (fX10_digests (64 + T) (fX10_tellText 64 T (fX10_tellWords 4 32 (fX10_fromSlot 4 a (fX10_tellWords 4 0 (fX10_fromSlot 4 b (zsnd (fX10_opens 14 b t5))))))))) : fX10_isRight a b T s = (zfst (fX10_isNeutral 18 (rgM t18)), zsnd (fX10_isNeutral 18 (rgM t18))) := by
  rw [e5, e] at h2 e8
  rw [e] at h h1
  unfold fX10_isRight
  dsimp only
  rw [if_neg h]
  unfold fX10_isRight_a6
  dsimp only
  rw [h1, cond_true]
  unfold fX10_isRight_a5
  dsimp only
  rw [h2, cond_true]
  unfold fX10_isRight_a3 rgM
  dsimp only
  rw [← e8]
theorem opens_eq (p v : Nat) (s : zSt) : zfst (fX10_opens p v s) = zfst (fX10_open p 4 (fX10_fromSlot 4 v s)) ∧ zsnd (fX10_opens p v s) = zsnd (fX10_open p 4 (fX10_fromSlot 4 v s)) := by
  unfold fX10_opens
  dsimp only
  simp only [zfst_mk, zsnd_mk]
  exact ⟨trivial, trivial⟩
/-- a slot read as a point, in the reference -/
theorem cM_opens {t : zSt} {p v : Nat} (hM : CM t) (hp : 8 < p ∧ p + 3 < 33) : (∀ id j, id ≠ 3 → ¬ (id = 2 ∧ 528 ≤ j ∧ j < 576) → ¬ (id = 2 ∧ 656 ≤ j ∧ j < 736) → ¬ (id = 2 ∧ 16 * p ≤ j ∧ j < 16 * p + 64) → ¬ (id = 4 ∧ j < 8) → ¬ (id = 4 ∧ 12 ≤ j ∧ j < 28) → (zsnd (fX10_opens p v t)).1 id j = t.1 id j) ∧ zfst (fX10_opens p v t) = rok (slM t v) ∧ zk2 (zsnd (fX10_opens p v t)) = zk2 t
      ∧ (rok (slM t v) = true → rM (zsnd (fX10_opens p v t)) p (rxv (slM t v), ry (slM t v)) ∧ mf (zsnd (fX10_opens p v t)) p (rxv (slM t v)) 1 ∧ mf (zsnd (fX10_opens p v t)) (p + 1) (ry (slM t v)) 1) := by
  obtain ⟨e1, e2⟩ := opens_eq p v t
  rw [e1, e2]
  obtain ⟨f1, f2, f3⟩ := cM_from 4 v t
  rw [← f2]
  generalize fX10_fromSlot 4 v t = t1 at f1 f2 f3 ⊢
  obtain ⟨o1, o2, o3⟩ := cM_open (s := t1) (p := p) (q := 4) (kM_row hM.1 (fun j _ => f1 2 j (by omega)) (fun j q q2 => f1 4 j (by omega))) (by omega)
  refine ⟨fun id j q1 q2 q3 q4 q5 q6 => ?_, o2, ?_, o3⟩
  · rw [o1 id j q1 q2 q3 q4 (by omega) q6, f1 id j (by omega)]
  · rw [k2_fX10_open]
    exact f3
theorem CM_of {s t : zSt} (h : CM s) (k : keepM s t) : CM t := CM_keep h k
theorem eight_M {s : zSt} {p : Nat} {A : Int × Int} (hA : rM s p A) (hd : mf s 3 (cd + cd) 1) (hp : 3 < p ∧ p + 3 < 26) : (∀ id j, id ≠ 3 → ¬ (id = 2 ∧ 416 ≤ j ∧ j < 544) → ¬ (id = 2 ∧ 16 * p ≤ j ∧ j < 16 * p + 64) → (fX10_eightTimes p s).1 id j = s.1 id j) ∧ rM (fX10_eightTimes p s) p (d2 (d2 (d2 A))) := by
  have eF : fX10_eightTimes p s = fX10_addPoint p p (fX10_addPoint p p (fX10_addPoint p p s)) := by
    show ziter (fX10_eightTimes_2 p) 0 3 s = _
    rw [ziter_succ, ziter_succ, ziter_succ]
    rfl
  rw [eF]
  obtain ⟨a1, a2⟩ := cM_padd hA hA hd (by omega) (by omega)
  have h1 := mf_row (t := fX10_addPoint p p s) hd (fun j hj => a1 2 (16 * 3 + j) (by omega) (by omega) (by omega))
  generalize fX10_addPoint p p s = s1 at a1 a2 h1 ⊢
  obtain ⟨b1, b2⟩ := cM_padd a2 a2 h1 (by omega) (by omega)
  have h2 := mf_row (t := fX10_addPoint p p s1) h1 (fun j hj => b1 2 (16 * 3 + j) (by omega) (by omega) (by omega))
  generalize fX10_addPoint p p s1 = s2 at b1 b2 h2 ⊢
  obtain ⟨c1, c2⟩ := cM_padd b2 b2 h2 (by omega) (by omega)
  exact ⟨fun id j q1 q2 q3 => by rw [c1 id j q1 q2 q3, b1 id j q1 q2 q3, a1 id j q1 q2 q3], c2⟩
theorem eight_X {s : zSt} {A : Int × Int} (hA : rX s 196 A) : (∀ id, id ≠ 40 → ¬ (75 ≤ id ∧ id ≤ 81) → ¬ (196 ≤ id ∧ id ≤ 199) → (ziter fX6_isRight_139 0 3 s).1 id = s.1 id) ∧ rX (ziter fX6_isRight_139 0 3 s) 196 (d2 (d2 (d2 A))) := by
  have eF : ziter fX6_isRight_139 0 3 s = fX0_twice 196 196 (fX0_twice 196 196 (fX0_twice 196 196 s)) := by
    rw [ziter_succ, ziter_succ, ziter_succ]
    rfl
  rw [eF]
  obtain ⟨a1, a2⟩ := cX_pdbl (S := 196) hA (by omega) (by omega)
  generalize fX0_twice 196 196 s = s1 at a1 a2 ⊢
  obtain ⟨b1, b2⟩ := cX_pdbl (S := 196) a2 (by omega) (by omega)
  generalize fX0_twice 196 196 s1 = s2 at b1 b2 ⊢
  obtain ⟨c1, c2⟩ := cX_pdbl (S := 196) b2 (by omega) (by omega)
  exact ⟨fun id q1 q2 q3 => by rw [c1 id q1 q2 (by omega), b1 id q1 q2 (by omega), a1 id q1 q2 (by omega)], c2⟩
theorem rgX_v {s : zSt} {s1 : Nat} {A R : Int × Int} (hX : CX s) (hA : rX s 186 A) (hR : rX s 191 R) (h1 : 10 < s1 ∧ s1 < 36) :
    (∀ id, id ≠ 40 → ¬ (75 ≤ id ∧ id ≤ 81) → ¬ (84 ≤ id ∧ id ≤ 163) → ¬ (186 ≤ id ∧ id ≤ 189) → ¬ (196 ≤ id ∧ id ≤ 199) → (rgX s1 s).1 id = s.1 id) ∧ rX (rgX s1 s) 196 (d2 (d2 (d2 (ea (sm bP (rN (s.1 s1) 4)) (en (ea (sm A (rN (s.1 184) 4)) R)))))) := by
  have eX : rgX s1 s = ziter fX6_isRight_139 0 3 (fX0_add 196 186 196 (fX0_multiply s1 67 196 (fX0_negate 186 (fX0_add 186 191 186 (fX0_multiply 184 186 186 s))))) := rfl
  obtain ⟨a1, a2⟩ := cX_mulp (S := 186) (ws := 184) hA hX.1.2.2.2.2.1 (by omega) (by omega) (by omega)
  have c1 := CX_keep (t := fX0_multiply 184 186 186 s) hX (fun id q => a1 id (by omega) (by omega) (by omega) (by omega))
  have r1 := rX_row (t := fX0_multiply 184 186 186 s) hR (fun i hi => a1 (191 + i) (by omega) (by omega) (by omega) (by omega))
  generalize rN (s.1 184) 4 = k at a2 ⊢
  generalize fX0_multiply 184 186 186 s = x1 at a1 a2 c1 r1 eX
  obtain ⟨b1, b2⟩ := cX_padd (S := 186) a2 r1 c1.1.2.2.2.2.1 (by omega) (by omega) (by omega)
  have c2 := CX_keep (t := fX0_add 186 191 186 x1) c1 (fun id q => b1 id (by omega) (by omega) (by omega))
  generalize fX0_add 186 191 186 x1 = x2 at b1 b2 c2 eX
  obtain ⟨d1, d2'⟩ := cX_pneg b2 c2.1.1 (by omega)
  have c3 := CX_keep (t := fX0_negate 186 x2) c2 (fun id q => d1 id (by omega))
  generalize fX0_negate 186 x2 = x3 at d1 d2' c3 eX
  obtain ⟨e1, e2⟩ := cX_mulp (S := 196) (ws := s1) c3.2.2 c3.1.2.2.2.2.1 (by omega) (by omega) (by omega)
  have c4 := CX_keep (t := fX0_multiply s1 67 196 x3) c3 (fun id q => e1 id (by omega) (by omega) (by omega) (by omega))
  have n4 := rX_row (t := fX0_multiply s1 67 196 x3) d2' (fun i hi => e1 (186 + i) (by omega) (by omega) (by omega) (by omega))
  have es : x3.1 s1 = s.1 s1 := by rw [d1 s1 (by omega), b1 s1 (by omega) (by omega) (by omega), a1 s1 (by omega) (by omega) (by omega) (by omega)]
  rw [es] at e2
  generalize fX0_multiply s1 67 196 x3 = x4 at e1 e2 c4 n4 eX
  obtain ⟨f1, f2⟩ := cX_padd (S := 196) e2 n4 c4.1.2.2.2.2.1 (by omega) (by omega) (by omega)
  generalize fX0_add 196 186 196 x4 = x5 at f1 f2 eX
  obtain ⟨g1, g2⟩ := eight_X f2
  rw [eX]
  refine ⟨fun id q1 q2 q3 q4 q5 => ?_, g2⟩
  rw [g1 id q1 q2 q5, f1 id q1 q2 (by omega), e1 id q1 q2 q3 (by omega), d1 id (by omega), b1 id q1 q2 (by omega), a1 id q1 q2 q3 (by omega)]
theorem rgM_v {s : zSt} {A R : Int × Int} (hM : CM s) (hA : rM s 10 A) (hR : rM s 14 R) :
    (∀ id j, id ≠ 3 → ¬ (id = 2 ∧ 288 ≤ j ∧ j < 544) → (rgM s).1 id j = s.1 id j) ∧ rM (rgM s) 18 (ea (d2 (d2 (d2 (sm bP (w4 s 8))))) (en (d2 (d2 (d2 (ea (sm A (w4 s 20)) R)))))) := by
  have eY : rgM s = fX10_addPoint 18 22 (fX10_negate 22 (fX10_eightTimes 22 (fX10_addPoint 22 14 (fX10_many 22 10 20 (fX10_eightTimes 18 (fX10_many 18 5 8 s)))))) := rfl
  have kp : ∀ {u : zSt}, (∀ id j, id ≠ 3 → ¬ (id = 2 ∧ 288 ≤ j ∧ j < 544) → u.1 id j = s.1 id j) → keepM s u := fun h => ⟨fun j q => h 2 j (by omega) (by omega), fun j q q2 => h 4 j (by omega) (by omega), funext fun j => h 5 j (by omega) (by omega), funext fun j => h 6 j (by omega) (by omega)⟩
  obtain ⟨a1, a2⟩ := cM_many (r := 18) (e := 8) hM.2 hM.1.2.2.2.1 (by omega) (by omega) (by omega)
  generalize w4 s 8 = S at a2 ⊢
  have F1 : ∀ id j, id ≠ 3 → ¬ (id = 2 ∧ 288 ≤ j ∧ j < 544) → (fX10_many 18 5 8 s).1 id j = s.1 id j := fun id j q1 q2 => a1 id j q1 (by omega) (by omega)
  generalize fX10_many 18 5 8 s = y1 at a1 a2 F1 eY
  have c1 := CM_keep hM (kp F1)
  obtain ⟨b1, b2⟩ := eight_M a2 c1.1.2.2.2.1 (by omega)
  have F2 : ∀ id j, id ≠ 3 → ¬ (id = 2 ∧ 288 ≤ j ∧ j < 544) → (fX10_eightTimes 18 y1).1 id j = s.1 id j := fun id j q1 q2 => by rw [b1 id j q1 (by omega) (by omega), F1 id j q1 q2]
  generalize fX10_eightTimes 18 y1 = y2 at b1 b2 F2 eY
  have c2 := CM_keep hM (kp F2)
  obtain ⟨d1, d3⟩ := cM_many (r := 22) (e := 20) (rM_row (t := y2) hA (fun j q1 q2 => F2 2 j (by omega) (by omega))) c2.1.2.2.2.1 (by omega) (by omega) (by omega)
  rw [w4_keep (t := y2) (s := s) (fun j hj => F2 4 (20 + j) (by omega) (by omega))] at d3
  generalize w4 s 20 = k at d3 ⊢
  have F3 : ∀ id j, id ≠ 3 → ¬ (id = 2 ∧ 288 ≤ j ∧ j < 544) → (fX10_many 22 10 20 y2).1 id j = s.1 id j := fun id j q1 q2 => by rw [d1 id j q1 (by omega) (by omega), F2 id j q1 q2]
  have b3 := rM_row (t := fX10_many 22 10 20 y2) b2 (fun j q1 q2 => d1 2 j (by omega) (by omega) (by omega))
  generalize fX10_many 22 10 20 y2 = y3 at d1 d3 F3 b3 eY
  have c3 := CM_keep hM (kp F3)
  obtain ⟨e1, e2⟩ := cM_padd d3 (rM_row (t := y3) hR (fun j q1 q2 => F3 2 j (by omega) (by omega))) c3.1.2.2.2.1 (by omega) (by omega)
  have F4 : ∀ id j, id ≠ 3 → ¬ (id = 2 ∧ 288 ≤ j ∧ j < 544) → (fX10_addPoint 22 14 y3).1 id j = s.1 id j := fun id j q1 q2 => by rw [e1 id j q1 (by omega) (by omega), F3 id j q1 q2]
  have b4 := rM_row (t := fX10_addPoint 22 14 y3) b3 (fun j q1 q2 => e1 2 j (by omega) (by omega) (by omega))
  generalize fX10_addPoint 22 14 y3 = y4 at e1 e2 F4 b4 eY
  have c4 := CM_keep hM (kp F4)
  obtain ⟨f1, f2⟩ := eight_M e2 c4.1.2.2.2.1 (by omega)
  have F5 : ∀ id j, id ≠ 3 → ¬ (id = 2 ∧ 288 ≤ j ∧ j < 544) → (fX10_eightTimes 22 y4).1 id j = s.1 id j := fun id j q1 q2 => by rw [f1 id j q1 (by omega) (by omega), F4 id j q1 q2]
  have b5 := rM_row (t := fX10_eightTimes 22 y4) b4 (fun j q1 q2 => f1 2 j (by omega) (by omega) (by omega))
  generalize fX10_eightTimes 22 y4 = y5 at f1 f2 F5 b5 eY
  have c5 := CM_keep hM (kp F5)
  obtain ⟨g1, g2⟩ := cM_pneg f2 c5.1.1 (by omega)
  have F6 : ∀ id j, id ≠ 3 → ¬ (id = 2 ∧ 288 ≤ j ∧ j < 544) → (fX10_negate 22 y5).1 id j = s.1 id j := fun id j q1 q2 => by rw [g1 id j (by omega), F5 id j q1 q2]
  have b6 := rM_row (t := fX10_negate 22 y5) b5 (fun j q1 q2 => g1 2 j (by omega))
  generalize fX10_negate 22 y5 = y6 at g1 g2 F6 b6 eY
  have c6 := CM_keep hM (kp F6)
  obtain ⟨h1, h2⟩ := cM_padd b6 g2 c6.1.2.2.2.1 (by omega) (by omega)
  rw [eY]
  exact ⟨fun id j q1 q2 => by rw [h1 id j q1 (by omega) (by omega), F6 id j q1 q2], h2⟩
