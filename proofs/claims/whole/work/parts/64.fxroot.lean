/-! the class's roots -/
def evn (c : Int) : Int := if c % 57896044618658097711785492504343953926634992332820282019728792003956564819949 % 2 = 1 then -c else c
theorem fr_t3 {out : Nat} {t : zSt} (h : zfst (fX1_isOdd 43 t) = true) : fX1_findRoot_a3 out t = (true, fX1_move 43 out (fX1_negate 43 43 (zsnd (fX1_isOdd 43 t)))) := by
  unfold fX1_findRoot_a3
  dsimp only
  rw [h, cond_true]
  rfl
theorem fr_f3 {out : Nat} {t : zSt} (h : zfst (fX1_isOdd 43 t) = false) : fX1_findRoot_a3 out t = (true, fX1_move 43 out (zsnd (fX1_isOdd 43 t))) := by
  unfold fX1_findRoot_a3
  dsimp only
  rw [h, cond_false]
  rfl
theorem fr_83 (out : Nat) (t : zSt) : fX1_findRoot_a8 out t = fX1_findRoot_a3 out t := by
  cases h : zfst (fX1_isOdd 43 t) with
  | true =>
    rw [fr_t3 h]
    unfold fX1_findRoot_a8
    dsimp only
    rw [h, cond_true]
    rfl
  | false =>
    rw [fr_f3 h]
    unfold fX1_findRoot_a8
    dsimp only
    rw [h, cond_false]
    rfl
theorem cX_even {t : zSt} {out k : Nat} {c : Int} (h0 : zf t 38 0 0) (fc : zf t 43 c k) (hk : k ≤ 8) : zfst (fX1_findRoot_a3 out t) = true ∧ (∀ id, id ≠ 41 → id ≠ 43 → id ≠ out → (zsnd (fX1_findRoot_a3 out t)).1 id = t.1 id) ∧ zf (zsnd (fX1_findRoot_a3 out t)) out (evn c) k := by
  obtain ⟨o1, o2⟩ := cX_isOdd fc hk
  have hT := @fr_t3 out t
  have hF := @fr_f3 out t
  rw [o2] at hT hF
  have f1 := zf_row (t := zsnd (fX1_isOdd 43 t)) fc (o1 43 (by omega))
  have f0 := zf_row (t := zsnd (fX1_isOdd 43 t)) h0 (o1 38 (by omega))
  generalize zsnd (fX1_isOdd 43 t) = u at o1 hT hF f1 f0
  unfold evn
  by_cases q : c % 57896044618658097711785492504343953926634992332820282019728792003956564819949 % 2 = 1
  · rw [hT (decide_eq_true q), if_pos q]
    simp only [zfst_mk, zsnd_mk]
    obtain ⟨n1, n2⟩ := cX_neg (out := 43) f0 f1 (by omega)
    generalize fX1_negate 43 43 u = v at n1 n2
    obtain ⟨m1, m2⟩ := cX_move (out := out) n2
    refine ⟨trivial, fun id q1 q2 q3 => ?_, m2⟩
    rw [m1 id q3, n1 id q2, o1 id q1]
  · rw [hF (decide_eq_false q), if_neg q]
    simp only [zfst_mk, zsnd_mk]
    obtain ⟨m1, m2⟩ := cX_move (out := out) f1
    refine ⟨trivial, fun id q1 q2 q3 => ?_, m2⟩
    rw [m1 id q3, o1 id q1]
theorem fr_tt {a out : Nat} {s t2 t3 : zSt} (e : t2 = fX1_square 43 44 (fX1_raise a 2 43 s)) (h : zfst (fX1_areSame 44 a t2) = true) (e3 : t3 = zsnd (fX1_areSame 44 a t2)) (h2 : zfst (fX1_areSame 44 a t3) = true) : fX1_findRoot a out s = fX1_findRoot_a3 out (zsnd (fX1_areSame 44 a t3)) := by
  subst e3
  subst e
  unfold fX1_findRoot
  dsimp only
  rw [h, cond_true]
  unfold fX1_findRoot_a5
  dsimp only
  rw [h2, cond_true]
theorem fr_ft {a out : Nat} {s t2 t6 : zSt} (e : t2 = fX1_square 43 44 (fX1_raise a 2 43 s)) (h : zfst (fX1_areSame 44 a t2) = false) (e6 : t6 = fX1_square 43 44 (fX1_multiply 43 39 43 (zsnd (fX1_areSame 44 a t2)))) (h2 : zfst (fX1_areSame 44 a t6) = true) : fX1_findRoot a out s = fX1_findRoot_a3 out (zsnd (fX1_areSame 44 a t6)) := by
  subst e6
  subst e
  unfold fX1_findRoot
  dsimp only
  rw [h, cond_false]
  unfold fX1_findRoot_a10
  dsimp only
  rw [h2, cond_true, fr_83]
theorem fr_ff {a out : Nat} {s t2 t6 : zSt} (e : t2 = fX1_square 43 44 (fX1_raise a 2 43 s)) (h : zfst (fX1_areSame 44 a t2) = false) (e6 : t6 = fX1_square 43 44 (fX1_multiply 43 39 43 (zsnd (fX1_areSame 44 a t2)))) (h2 : zfst (fX1_areSame 44 a t6) = false) : fX1_findRoot a out s = (false, zsnd (fX1_areSame 44 a t6)) := by
  subst e6
  subst e
  unfold fX1_findRoot
  dsimp only
  rw [h, cond_false]
  unfold fX1_findRoot_a10
  dsimp only
  rw [h2, cond_false]
  rfl
theorem cX_root {s : zSt} {a out k m : Nat} {x I : Int} (fa : zf s a x k) (h0 : zf s 38 0 0) (fI : zf s 39 I m) (hk : k ≤ 4) (hm : m ≤ 4) (hst : rN (s.1 2) 4 = pRt) (ha : a < 40 ∨ 60 < a) (ho : out < 38 ∨ 60 < out) :
    (∀ id, ¬ (40 ≤ id ∧ id ≤ 60) → id ≠ out → (zsnd (fX1_findRoot a out s)).1 id = s.1 id) ∧ zfst (fX1_findRoot a out s) = (rtv pRt I x).1 ∧ ((rtv pRt I x).1 = true → zf (zsnd (fX1_findRoot a out s)) out (evn (rtv pRt I x).2) 1) := by
  obtain ⟨r1, r2⟩ := cX_raise (e := 2) (out := 43) fa hk (by omega) (by omega) (by omega)
  rw [hst] at r2
  clear hst
  generalize pRt = n at r2 ⊢
  have fa1 := zf_row (t := fX1_raise a 2 43 s) fa (r1 a (by omega) (by omega) (by omega))
  have h01 := zf_row (t := fX1_raise a 2 43 s) h0 (r1 38 (by omega) (by omega) (by omega))
  have fI1 := zf_row (t := fX1_raise a 2 43 s) fI (r1 39 (by omega) (by omega) (by omega))
  have hTT := @fr_tt a out s
  have hFT := @fr_ft a out s
  have hFF := @fr_ff a out s
  generalize fX1_raise a 2 43 s = t1 at r1 r2 fa1 h01 fI1 hTT hFT hFF
  obtain ⟨s1, s2⟩ := cX_sq (out := 44) r2 (by omega) (by omega) (by omega)
  have fa2 := zf_row (t := fX1_square 43 44 t1) fa1 (s1 a (by omega) (by omega))
  have h02 := zf_row (t := fX1_square 43 44 t1) h01 (s1 38 (by omega) (by omega))
  have fI2 := zf_row (t := fX1_square 43 44 t1) fI1 (s1 39 (by omega) (by omega))
  have fc2 := zf_row (t := fX1_square 43 44 t1) r2 (s1 43 (by omega) (by omega))
  generalize fX1_square 43 44 t1 = t2 at s1 s2 fa2 h02 fI2 fc2 hTT hFT hFF
  obtain ⟨d1, d2⟩ := cX_areSame s2 fa2 (by omega)
  have fa3 := zf_row (t := zsnd (fX1_areSame 44 a t2)) fa2 (d1 a (by omega) (by omega))
  have h03 := zf_row (t := zsnd (fX1_areSame 44 a t2)) h02 (d1 38 (by omega) (by omega))
  have fI3 := zf_row (t := zsnd (fX1_areSame 44 a t2)) fI2 (d1 39 (by omega) (by omega))
  have fc3 := zf_row (t := zsnd (fX1_areSame 44 a t2)) fc2 (d1 43 (by omega) (by omega))
  have fq3 := zf_row (t := zsnd (fX1_areSame 44 a t2)) s2 (d1 44 (by omega) (by omega))
  have hTT := fun h t3 e3 h2 => hTT (t2 := t2) (t3 := t3) rfl h e3 h2
  have hFT := fun h t6 e6 h2 => hFT (t2 := t2) (t6 := t6) rfl h e6 h2
  have hFF := fun h t6 e6 h2 => hFF (t2 := t2) (t6 := t6) rfl h e6 h2
  rw [d2] at hTT hFT hFF
  generalize zsnd (fX1_areSame 44 a t2) = t3 at d1 fa3 h03 fI3 fc3 fq3 hTT hFT hFF
  have fr3 : ∀ id, ¬ (40 ≤ id ∧ id ≤ 60) → t3.1 id = s.1 id := fun id q => by
    rw [d1 id (by omega) (by omega), s1 id (by omega) (by omega), r1 id (by omega) (by omega) (by omega)]
  by_cases hq : (x ^ n * x ^ n - x) % 57896044618658097711785492504343953926634992332820282019728792003956564819949 = 0
  · have e : rtv n I x = (true, x ^ n) := if_pos hq
    rw [e]
    obtain ⟨g1, g2⟩ := cX_areSame fq3 fa3 (by omega)
    rw [hTT (decide_eq_true hq) t3 rfl (by rw [g2]; exact decide_eq_true hq)]
    have h04 := zf_row (t := zsnd (fX1_areSame 44 a t3)) h03 (g1 38 (by omega) (by omega))
    have fc4 := zf_row (t := zsnd (fX1_areSame 44 a t3)) fc3 (g1 43 (by omega) (by omega))
    generalize zsnd (fX1_areSame 44 a t3) = t4 at g1 h04 fc4
    obtain ⟨v1, v2, v3⟩ := cX_even (out := out) h04 fc4 (by omega)
    refine ⟨fun id q1 q2 => ?_, v1, fun _ => v3⟩
    rw [v2 id (by omega) (by omega) q2, g1 id (by omega) (by omega), fr3 id q1]
  · have e : rtv n I x = (decide ((x ^ n * I * (x ^ n * I) - x) % 57896044618658097711785492504343953926634992332820282019728792003956564819949 = 0), x ^ n * I) := if_neg hq
    rw [e]
    have hFT := hFT (decide_eq_false hq)
    have hFF := hFF (decide_eq_false hq)
    obtain ⟨a1, a2⟩ := cX_mul (out := 43) fc3 fI3 (by omega) (by omega) (by omega) (by omega)
    have fa5 := zf_row (t := fX1_multiply 43 39 43 t3) fa3 (a1 a (by omega) (by omega))
    have h05 := zf_row (t := fX1_multiply 43 39 43 t3) h03 (a1 38 (by omega) (by omega))
    generalize fX1_multiply 43 39 43 t3 = t5 at a1 a2 fa5 h05 hFT hFF
    obtain ⟨b1, b2⟩ := cX_sq (out := 44) a2 (by omega) (by omega) (by omega)
    have fa6 := zf_row (t := fX1_square 43 44 t5) fa5 (b1 a (by omega) (by omega))
    have h06 := zf_row (t := fX1_square 43 44 t5) h05 (b1 38 (by omega) (by omega))
    have fc6 := zf_row (t := fX1_square 43 44 t5) a2 (b1 43 (by omega) (by omega))
    generalize fX1_square 43 44 t5 = t6 at b1 b2 fa6 h06 fc6 hFT hFF
    have hFT := hFT t6 rfl
    have hFF := hFF t6 rfl
    obtain ⟨g1, g2⟩ := cX_areSame b2 fa6 (by omega)
    have h07 := zf_row (t := zsnd (fX1_areSame 44 a t6)) h06 (g1 38 (by omega) (by omega))
    have fc7 := zf_row (t := zsnd (fX1_areSame 44 a t6)) fc6 (g1 43 (by omega) (by omega))
    rw [g2] at hFT hFF
    generalize zsnd (fX1_areSame 44 a t6) = t7 at g1 h07 fc7 hFT hFF
    have fr7 : ∀ id, ¬ (40 ≤ id ∧ id ≤ 60) → t7.1 id = s.1 id := fun id q => by
      rw [g1 id (by omega) (by omega), b1 id (by omega) (by omega), a1 id (by omega) (by omega), fr3 id q]
    by_cases hq2 : (x ^ n * I * (x ^ n * I) - x) % 57896044618658097711785492504343953926634992332820282019728792003956564819949 = 0
    · rw [hFT (decide_eq_true hq2), decide_eq_true hq2]
      obtain ⟨v1, v2, v3⟩ := cX_even (out := out) h07 fc7 (by omega)
      refine ⟨fun id q1 q2 => ?_, v1, fun _ => v3⟩
      rw [v2 id (by omega) (by omega) q2, fr7 id q1]
    · rw [hFF (decide_eq_false hq2), decide_eq_false hq2]
      simp only [zfst_mk, zsnd_mk]
      exact ⟨fun id q1 _ => fr7 id q1, trivial, fun h => absurd h (by decide)⟩
