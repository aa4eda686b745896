/-! the class's products, brought down; exact numbers -/
def zc (a b : Int) : Prop := ∃ k, a = b + 57896044618658097711785492504343953926634992332820282019728792003956564819949 * k
theorem zc_refl (a : Int) : zc a a := ⟨0, by omega⟩
theorem zc_of {a b : Int} (h : a = b) : zc a b := h ▸ zc_refl a
theorem zc_symm {a b : Int} : zc a b → zc b a := fun ⟨k, h⟩ => ⟨-k, by omega⟩
theorem zc_trans {a b c : Int} : zc a b → zc b c → zc a c := fun ⟨k, h⟩ ⟨m, g⟩ => ⟨k + m, by omega⟩
theorem zc_add {a b c d : Int} : zc a b → zc c d → zc (a + c) (b + d) := fun ⟨k, h⟩ ⟨m, g⟩ => ⟨k + m, by omega⟩
theorem zc_sub {a b c d : Int} : zc a b → zc c d → zc (a - c) (b - d) := fun ⟨k, h⟩ ⟨m, g⟩ => ⟨k - m, by omega⟩
theorem rg_d (b d k m p : Int) : (b + p * k) * (d + p * m) = b * d + p * (k * d + b * m + p * k * m) := by grind
theorem zc_mul {a b c d : Int} : zc a b → zc c d → zc (a * c) (b * d) := fun ⟨k, h⟩ ⟨m, g⟩ => ⟨k * d + b * m + 57896044618658097711785492504343953926634992332820282019728792003956564819949 * k * m, by rw [h, g, rg_d]⟩
theorem zc_emod {a b : Int} (h : zc a b) : a % 57896044618658097711785492504343953926634992332820282019728792003956564819949 = b % 57896044618658097711785492504343953926634992332820282019728792003956564819949 := by
  obtain ⟨k, hk⟩ := h
  rw [hk, Int.add_mul_emod_self_left]
theorem zc_of_emod {a b : Int} (h : a % 57896044618658097711785492504343953926634992332820282019728792003956564819949 = b % 57896044618658097711785492504343953926634992332820282019728792003956564819949) : zc a b := ⟨a / 57896044618658097711785492504343953926634992332820282019728792003956564819949 - b / 57896044618658097711785492504343953926634992332820282019728792003956564819949, by omega⟩
theorem zc_mod (a : Int) : zc (a % 57896044618658097711785492504343953926634992332820282019728792003956564819949) a := zc_of_emod (Int.emod_emod_of_dvd _ (Int.dvd_refl _))
theorem rv_split (w : Nat) (r : Nat → Int64) (n : Nat) : ∀ m, rv w r (n + m) = rv w r n + 2 ^ (w * n) * rv w (fun i => r (n + i)) m
  | 0 => by rw [rv_0, Int.mul_zero, Int.add_zero]; rfl
  | m + 1 => by
    rw [show n + (m + 1) = (n + m) + 1 by omega, rv_succ, rv_split w r n m, rv_succ, show w * (n + m) = w * n + w * m from Nat.mul_add _ _ _, Int.pow_add, Int.mul_add]
    have : ∀ (A B C D E : Int), A + B + E * (C * D) = A + (B + C * (E * D)) := by intros; grind
    exact this _ _ _ _ _
theorem vX_fold (out : Nat) (u : zSt) (ho : out ≠ 40) (hW : ∀ k, k < 20 → -2882303761517117440 ≤ (u.1 40 k).toInt ∧ (u.1 40 k).toInt ≤ 2882303761517117440) (h19 : (u.1 40 19).toInt = 0) (h18 : -144115188075855872 ≤ (u.1 40 18).toInt ∧ (u.1 40 18).toInt ≤ 144115188075855872) :
    zfr [40, out] u (fX1_fold out u) ∧ zc (v10 ((fX1_fold out u).1 out)) (rv 26 (u.1 40) 20) ∧ (∀ i, i < 9 → 0 ≤ ((fX1_fold out u).1 out i).toInt ∧ ((fX1_fold out u).1 out i).toInt ≤ 40869298176) ∧ -1305739657216 ≤ ((fX1_fold out u).1 out 9).toInt ∧ ((fX1_fold out u).1 out 9).toInt ≤ 1305739657216 := by
  obtain ⟨c1, c2, c3, c4, c5, c6⟩ := vX_chain 40 u 19 20 (by omega) (fun i => if i = 18 then 144115188075855872 else 2882303761517117440) (fun i => if i = 19 then 2147487744 else 137438953472) (fun i hi => by
      by_cases q : i = 18
      · rw [if_pos q, q]
        exact h18
      · rw [if_neg q]
        exact hW i (by omega)) (fun i hi => by
      by_cases q : i = 18
      · rw [if_pos q, if_neg (by omega), if_pos (by omega)]
        omega
      · rw [if_neg q, if_neg (by omega), if_neg (by omega)]
        omega) (by decide) (fun i hi => by
      by_cases q : i = 18
      · rw [if_pos q, if_neg (by omega)]
        omega
      · rw [if_neg q]
        by_cases q2 : i = 19
        · rw [if_pos q2]
          omega
        · rw [if_neg q2]
          omega)
  rw [if_pos rfl] at c5 c6
  have eF : ∀ w, w = ziter (fX1_carry_2 40) 0 19 u → fX1_fold out u = ziter (fX1_fold_48 out) 0 10 w := fun w e => by rw [e]; rfl
  generalize hw : ziter (fX1_carry_2 40) 0 19 u = w at c1 c2 c3 c4 c5 c6
  rw [eF w hw.symm]
  have h := zmap0 (F := fX1_fold_48 out) (s0 := w) out 10 (fun i => w.1 40 i + 608 * w.1 40 (i + 10)) (fun i σ hi h => by
    show zW σ out i (σ.1 40 i + 608 * σ.1 40 (i + 10)) = _
    rw [h 40 i (by omega), h 40 (i + 10) (by omega)])
  have hb : ∀ i, i < 10 → (if i = 9 then -1305739657216 else 0) ≤ (w.1 40 i + 608 * w.1 40 (i + 10)).toInt ∧ (w.1 40 i + 608 * w.1 40 (i + 10)).toInt ≤ (if i = 9 then 1305739657216 else 40869298176) ∧ (w.1 40 i + 608 * w.1 40 (i + 10)).toInt = (w.1 40 i).toInt + 608 * (w.1 40 (i + 10)).toInt := fun i hi => by
    have a1 := c3 i (by omega)
    by_cases q : i = 9
    · subst q
      have e19 : w.1 40 (9 + 10) = w.1 40 19 := rfl
      have e := mq_608 (w.1 40 19) (by omega) (by omega)
      rw [e19, mq_addL (by omega) (by omega), e, if_pos rfl, if_pos rfl]
      omega
    · have a2 := c3 (i + 10) (by omega)
      have e := mq_608 (w.1 40 (i + 10)) (by omega) (by omega)
      rw [mq_addL (by omega) (by omega), e, if_neg q, if_neg q]
      omega
  generalize hz : ziter (fX1_fold_48 out) 0 10 w = z at h
  obtain ⟨g1, g2⟩ := h
  refine ⟨fun id hid => ?_, ?_, fun i hi => ?_, ?_⟩
  · have n1 : id ≠ 40 := fun e => hid (by rw [e]; simp)
    have n2 : id ≠ out := fun e => hid (by rw [e]; simp)
    rw [show z.1 id = w.1 id from funext fun j => g1 id j (Or.inl n2)]
    exact c1 id (fun e => n1 (List.mem_singleton.mp e))
  · have e1 : ∀ n, n ≤ 10 → rv 26 (z.1 out) n = rv 26 (w.1 40) n + 608 * rv 26 (fun i => w.1 40 (10 + i)) n := fun n => by
      induction n with
      | zero => intro _; rfl
      | succ n ih =>
        intro hn
        have e := (hb n (by omega)).2.2
        rw [rv_succ, rv_succ, rv_succ, ih (by omega), g2 n (by omega), e, Nat.add_comm n 10]
        have : ∀ (A B C D P : Int), A + 608 * B + (C + 608 * D) * P = A + C * P + 608 * (B + D * P) := by intros; grind
        exact this _ _ _ _ _
    have e2 := rv_split 26 (w.1 40) 10 10
    have e3 := e1 10 (Nat.le_refl _)
    rw [show (10 + 10 : Nat) = 20 from rfl, c2] at e2
    refine ⟨-(32 * rv 26 (fun i => w.1 40 (10 + i)) 10), ?_⟩
    show rv 26 (z.1 out) 10 = _
    rw [e3, e2]
    omega
  · have e := hb i (by omega)
    rw [if_neg (by omega), if_neg (by omega)] at e
    rw [g2 i (by omega)]
    exact ⟨e.1, e.2.1⟩
  · have e := hb 9 (by omega)
    rw [if_pos rfl, if_pos rfl] at e
    rw [g2 9 (by omega)]
    exact ⟨e.1, e.2.1⟩
theorem zcr_c {r : Nat → Int64} {T : Int} (h : zcr r T) : zc (v10 r) T := ⟨-(T / 2 ^ 255), by rw [h.2.2.2.2]; omega⟩
theorem zcr_b {r : Nat → Int64} {T D B : Int} (h : zcr r T) (h1 : -D ≤ T / 2 ^ 255) (h2 : T / 2 ^ 255 ≤ D) (hB : 67108864 + 19 * D ≤ B) (hD : 0 ≤ D) : zrb r B := by
  intro i hi
  obtain ⟨a1, a2, a3, a4, -⟩ := h
  by_cases q : i = 0
  · subst q
    omega
  · by_cases q9 : i = 9
    · subst q9
      omega
    · have := a2 i (by omega) (by omega)
      omega
theorem vX_fc (out : Nat) (u : zSt) (ho : out ≠ 40) (hW : ∀ k, k < 20 → -2882303761517117440 ≤ (u.1 40 k).toInt ∧ (u.1 40 k).toInt ≤ 2882303761517117440) (h19 : (u.1 40 19).toInt = 0) (h18 : -144115188075855872 ≤ (u.1 40 18).toInt ∧ (u.1 40 18).toInt ≤ 144115188075855872) :
    zfr [40, out] u (fX1_carry out (fX1_fold out u)) ∧ zc (v10 ((fX1_carry out (fX1_fold out u)).1 out)) (rv 26 (u.1 40) 20) ∧ zrb ((fX1_carry out (fX1_fold out u)).1 out) 83886080 := by
  obtain ⟨f1, f2, f3, f4⟩ := vX_fold out u ho hW h19 h18
  generalize fX1_fold out u = v at f1 f2 f3 f4
  obtain ⟨c1, c2, c3, c4⟩ := vX_carry out v 40869298176 1305739657216 611 622626 (fun i hi => by have := f3 i hi; omega) f4 (by omega) (by omega) (by omega) (by omega) (by omega) (by omega)
  exact ⟨f1.trans c1 (fun _ h => h) (fun x h => by rw [List.mem_singleton.mp h]; simp), zc_trans (zcr_c c2) f2, zcr_b c2 c3 c4 (by omega) (by omega)⟩
theorem fill40 (s : zSt) : zfr [40] s (fJ7_fill_d0a16 40 20 0 s) ∧ ∀ k, k < 20 → (fJ7_fill_d0a16 40 20 0 s).1 40 k = 0 :=
  ⟨zfr1 (fun id hid => funext fun j => (fillL 40 20 0 s).1 id j (Or.inl hid)), (fillL 40 20 0 s).2⟩
theorem vX_mul (a b out : Nat) (s : zSt) (ha : a ≠ 40) (hb : b ≠ 40) (ho : out ≠ 40) {A B : Int} (hA : zrb (s.1 a) A) (hB : zrb (s.1 b) B) (hM : A * B ≤ 144115188075855872) :
    zfr [40, out] s (fX1_multiply a b out s) ∧ zc (v10 ((fX1_multiply a b out s).1 out)) (v10 (s.1 a) * v10 (s.1 b)) ∧ zrb ((fX1_multiply a b out s).1 out) 83886080 := by
  obtain ⟨f1, f2⟩ := fill40 s
  have eF : fX1_multiply a b out s = fX1_carry out (fX1_fold out (ziter (fX1_multiply_11 a b) 0 10 (fJ7_fill_d0a16 40 20 0 s))) := rfl
  rw [eF]
  generalize fJ7_fill_d0a16 40 20 0 s = t at f1 f2
  have ea : t.1 a = s.1 a := f1 a (fun e => ha (List.mem_singleton.mp e))
  have eb : t.1 b = s.1 b := f1 b (fun e => hb (List.mem_singleton.mp e))
  obtain ⟨g1, g2, g3, g4, g5, g6⟩ := vX_outer a b t ha hb (A := A) (B := B) (by rw [ea]; exact hA) (by rw [eb]; exact hB) hM f2
  generalize ziter (fX1_multiply_11 a b) 0 10 t = u at g1 g2 g3 g4 g5 g6
  obtain ⟨k1, k2, k3⟩ := vX_fc out u ho (fun k hk => by have := g3 k hk; omega) g4 ⟨g5, g6⟩
  rw [g2, ea, eb] at k2
  exact ⟨(f1.trans g1 (W := [40]) (fun _ h => h) (fun _ h => h)).trans k1 (fun x h => by rw [List.mem_singleton.mp h]; simp) (fun _ h => h), k2, k3⟩
theorem vX_sq (a out : Nat) (s : zSt) (ha : a ≠ 40) (ho : out ≠ 40) {A : Int} (hA : zrb (s.1 a) A) (hM : A * A ≤ 144115188075855872) (hA2 : A ≤ 1073741824) :
    zfr [40, out] s (fX1_square a out s) ∧ zc (v10 ((fX1_square a out s).1 out)) (v10 (s.1 a) * v10 (s.1 a)) ∧ zrb ((fX1_square a out s).1 out) 83886080 := by
  obtain ⟨f1, f2⟩ := fill40 s
  have eF : fX1_square a out s = fX1_carry out (fX1_fold out (ziter (fX1_square_10 a) 0 10 (fJ7_fill_d0a16 40 20 0 s))) := rfl
  rw [eF]
  generalize fJ7_fill_d0a16 40 20 0 s = t at f1 f2
  have ea : t.1 a = s.1 a := f1 a (fun e => ha (List.mem_singleton.mp e))
  obtain ⟨g1, g2, g3, g4, g5, g6⟩ := vX_sqouter a t ha (A := A) (by rw [ea]; exact hA) hM hA2 f2
  generalize ziter (fX1_square_10 a) 0 10 t = u at g1 g2 g3 g4 g5 g6
  obtain ⟨k1, k2, k3⟩ := vX_fc out u ho g3 g4 ⟨g5, g6⟩
  rw [g2, ea] at k2
  exact ⟨(f1.trans g1 (W := [40]) (fun _ h => h) (fun _ h => h)).trans k1 (fun x h => by rw [List.mem_singleton.mp h]; simp) (fun _ h => h), k2, k3⟩
theorem vX_scale (a out : Nat) (s : zSt) (hA : zrb (s.1 a) 167772160) :
    zfr [out] s (fX1_scale a 121665 out s) ∧ zc (v10 ((fX1_scale a 121665 out s).1 out)) (v10 (s.1 a) * 121665) ∧ zrb ((fX1_scale a 121665 out s).1 out) 335544320 := by
  have h := zmap0 (F := fX1_scale_3 a 121665 out) (s0 := s) out 10 (fun i => s.1 a i * 121665) (fun i σ hi h => by
    show zW σ out i (σ.1 a i * 121665) = _
    rw [h a i (by omega)])
  have eF : fX1_scale a 121665 out s = fX1_carry out (ziter (fX1_scale_3 a 121665 out) 0 10 s) := rfl
  rw [eF]
  generalize ziter (fX1_scale_3 a 121665 out) 0 10 s = v at h
  obtain ⟨g1, g2⟩ := h
  have e0 : (121665 : Int64).toInt = 121665 := by decide
  have hm : ∀ i, i < 10 → (v.1 out i).toInt = (s.1 a i).toInt * 121665 := fun i hi => by
    have := hA i hi
    rw [g2 i hi, mq_mulL (by rw [e0]; omega) (by rw [e0]; omega), e0]
  have e1 : ∀ n, n ≤ 10 → rv 26 (v.1 out) n = rv 26 (s.1 a) n * 121665 := fun n => by
    induction n with
    | zero => intro _; rfl
    | succ n ih =>
      intro hn
      rw [rv_succ, rv_succ, ih (by omega), hm n (by omega)]
      have : ∀ (A C P : Int), A * 121665 + C * 121665 * P = (A + C * P) * 121665 := by intros; grind
      exact this _ _ _
  have e2 := e1 10 (Nat.le_refl _)
  obtain ⟨c1, c2, c3, c4⟩ := vX_carry out v 20411999846400 20411999846400 304168 9733202 (fun i hi => by have := hA i (by omega); rw [hm i (by omega)]; omega) (by have := hA 9 (by omega); rw [hm 9 (by omega)]; omega) (by omega) (by omega) (by omega) (by omega) (by omega) (by omega)
  refine ⟨fun id hid => ?_, ?_, zcr_b c2 c3 c4 (by omega) (by omega)⟩
  · rw [c1 id hid]
    exact funext fun j => g1 id j (Or.inl (fun e => hid (by rw [e]; exact List.mem_singleton.mpr rfl)))
  · have := zcr_c c2
    rw [show v10 (v.1 out) = v10 (s.1 a) * 121665 from e2] at this
    exact this
/-- the one number below p -/
def zex (r : Nat → Int64) (T : Int) : Prop := v10 r = T % 57896044618658097711785492504343953926634992332820282019728792003956564819949 ∧ (∀ i, i < 9 → 0 ≤ (r i).toInt ∧ (r i).toInt < 67108864) ∧ 0 ≤ (r 9).toInt ∧ (r 9).toInt < 2097152
theorem vX_bump {s : zSt} {x : Int64} {d : Int} (hx : x.toInt = (s.1 41 0).toInt + d) : zfr [41] s (zW s 41 0 x) ∧ v10 ((zW s 41 0 x).1 41) = v10 (s.1 41) + d ∧ ((zW s 41 0 x).1 41 0).toInt = (s.1 41 0).toInt + d ∧ ∀ j, j ≠ 0 → (zW s 41 0 x).1 41 j = s.1 41 j := by
  refine ⟨fun id hid => zW_ne _ _ _ (fun e => hid (by rw [e]; exact List.mem_singleton.mpr rfl)), ?_, ?_, fun j hj => ?_⟩
  · rw [zW_at]
    show rv 26 _ 10 = rv 26 _ 10 + _
    rw [rv_upd (by omega), hx]
    omega
  · rw [zW_at, pk_uLs, hx]
  · rw [zW_at, pk_uLn hj]
theorem vX_exact (a : Nat) (s : zSt) (h : zrb (s.1 a) 671088640) : zfr [41] s (fX1_makeExact a s) ∧ zex ((fX1_makeExact a s).1 41) (v10 (s.1 a)) := by
  have e19 : (19 : Int64).toInt = 19 := by decide
  have eF : fX1_makeExact a s = fX1_carry 41 (zW (fX1_carry 41 (zW (fX1_carry 41 (fX1_move a 41 s)) 41 0 ((fX1_carry 41 (fX1_move a 41 s)).1 41 0 + 19))) 41 0 ((fX1_carry 41 (zW (fX1_carry 41 (fX1_move a 41 s)) 41 0 ((fX1_carry 41 (fX1_move a 41 s)).1 41 0 + 19))).1 41 0 - 19)) := rfl
  obtain ⟨m1, m2, m3⟩ := vX_move a 41 s
  generalize fX1_move a 41 s = t1 at eF m1 m2 m3
  obtain ⟨c1, c2, c3, c4⟩ := vX_carry 41 t1 671088640 671088640 12 321 (fun i hi => by rw [m2 i (by omega)]; exact h i (by omega)) (by rw [m2 9 (by omega)]; exact h 9 (by omega)) (by omega) (by omega) (by omega) (by omega) (by omega) (by omega)
  rw [m3] at c2 c3 c4
  generalize fX1_carry 41 t1 = t2 at eF c1 c2
  obtain ⟨a1, a2, a3, a4, a5⟩ := c2
  obtain ⟨b1, b2, b3, b4⟩ := vX_bump (s := t2) (x := t2.1 41 0 + 19) (d := 19) (by rw [mq_addL (by omega) (by omega), e19])
  generalize zW t2 41 0 (t2.1 41 0 + 19) = t3 at eF b1 b2 b3 b4
  obtain ⟨d1, d2, d3, d4⟩ := vX_carry 41 t3 268435456 2097152 8 2 (fun i hi => by
      by_cases q : i = 0
      · subst q
        omega
      · have := a2 i (by omega) (by omega)
        rw [b4 i q]
        omega) (by rw [b4 9 (by omega)]; omega) (by omega) (by omega) (by omega) (by omega) (by omega) (by omega)
  rw [b2] at d2 d3 d4
  generalize fX1_carry 41 t3 = t4 at eF d1 d2
  obtain ⟨f1, f2, f3, f4, f5⟩ := d2
  obtain ⟨g1, g2, g3, g4⟩ := vX_bump (s := t4) (x := t4.1 41 0 - 19) (d := -19) (by rw [mq_subL (by omega) (by omega), e19]; omega)
  generalize zW t4 41 0 (t4.1 41 0 - 19) = t5 at eF g1 g2 g3 g4
  obtain ⟨k1, k2, k3, k4⟩ := vX_carry 41 t5 268435456 2097152 8 2 (fun i hi => by
      by_cases q : i = 0
      · subst q
        omega
      · have := f2 i (by omega) (by omega)
        rw [g4 i q]
        omega) (by rw [g4 9 (by omega)]; omega) (by omega) (by omega) (by omega) (by omega) (by omega) (by omega)
  rw [g2] at k2 k3 k4
  rw [eF]
  generalize fX1_carry 41 t5 = t6 at eF k1 k2
  obtain ⟨n1, n2, n3, n4, n5⟩ := k2
  generalize v10 (s.1 a) = T at *
  have hall : v10 (t6.1 41) = T % 57896044618658097711785492504343953926634992332820282019728792003956564819949 ∧ 0 ≤ (t6.1 41 0).toInt ∧ (t6.1 41 0).toInt < 67108864 := by
    generalize v10 (t6.1 41) = V6 at *
    generalize v10 (t4.1 41) = V4 at *
    generalize v10 (t2.1 41) = V2 at *
    generalize (t6.1 41 0).toInt = X6 at *
    clear a1 a2 a3 a4 b1 b2 b3 b4 f1 f2 f3 f4 g1 g2 g3 g4 n2 n3 n4 m1 m2 m3 c1 d1 k1 eF h
    generalize hq : T / 2 ^ 255 = q at *
    have hV2 : V2 = T - 57896044618658097711785492504343953926634992332820282019728792003956564819949 * q := by omega
    generalize hq2 : (V2 + 19) / 2 ^ 255 = q2 at *
    have hV4 : V4 = V2 + 19 - 57896044618658097711785492504343953926634992332820282019728792003956564819949 * q2 := by omega
    generalize hq3 : (V4 + -19) / 2 ^ 255 = q3 at *
    have hV6 : V6 = V4 + -19 - 57896044618658097711785492504343953926634992332820282019728792003956564819949 * q3 := by omega
    have hr : 0 ≤ V6 ∧ V6 < 57896044618658097711785492504343953926634992332820282019728792003956564819949 := by omega
    refine ⟨?_, ?_⟩
    · have : V6 % 57896044618658097711785492504343953926634992332820282019728792003956564819949 = T % 57896044618658097711785492504343953926634992332820282019728792003956564819949 := zc_emod ⟨-(q + q2 + q3), by omega⟩
      rw [← this, Int.emod_eq_of_lt hr.1 hr.2]
    · omega
  refine ⟨?_, hall.1, fun i hi => ?_, n3, n4⟩
  · exact ((((m1.trans c1 (W := [41]) (fun _ h => h) (fun _ h => h)).trans b1 (W := [41]) (fun _ h => h) (fun _ h => h)).trans d1 (W := [41]) (fun _ h => h) (fun _ h => h)).trans g1 (W := [41]) (fun _ h => h) (fun _ h => h)).trans k1 (fun _ h => h) (fun _ h => h)
  · by_cases q : i = 0
    · subst q
      exact hall.2
    · exact n2 i (by omega) hi
