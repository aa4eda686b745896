/-! bytes to points: the same point on both sides -/
def ry (N : Nat) : Int := ((N % 2 ^ 255 : Nat) : Int)
def rwv (y : Int) : Int := (y * y - 1) * iv (cd * (y * y) + 1)
def rcv (N : Nat) : Bool × Int := rtv pRt cI (rwv (ry N))
def rokf (N : Nat) (b : Bool) (c : Int) : Bool := decide (N % 2 ^ 255 < 57896044618658097711785492504343953926634992332820282019728792003956564819949) && (b && !(decide (c % 57896044618658097711785492504343953926634992332820282019728792003956564819949 = 0) && decide (N / 2 ^ 255 % 2 = 1)))
def rxf (N : Nat) (c : Int) : Int := if c % 57896044618658097711785492504343953926634992332820282019728792003956564819949 % 2 = ((N / 2 ^ 255 % 2 : Nat) : Int) then c else -c
def rok (N : Nat) : Bool := rokf N (rcv N).1 (rcv N).2
def rxv (N : Nat) : Int := rxf N (rcv N).2
theorem rtv_sq {n : Nat} {I x : Int} (h : (rtv n I x).1 = true) : zc ((rtv n I x).2 * (rtv n I x).2) x := by
  have key : ∀ c : Int, (c * c - x) % 57896044618658097711785492504343953926634992332820282019728792003956564819949 = 0 → zc (c * c) x := fun c hc => zc_sub0.mpr (zc_of_emod (by rw [hc]; rfl))
  unfold rtv at h ⊢
  by_cases q : (x ^ n * x ^ n - x) % 57896044618658097711785492504343953926634992332820282019728792003956564819949 = 0
  · rw [if_pos q] at h ⊢
    exact key _ q
  · rw [if_neg q] at h ⊢
    exact key _ (of_decide_eq_true h)
theorem den_ne (y : Int) : ¬ zc (cd * (y * y) + 1) 0 := by
  intro z
  have hy : ¬ zc y 0 := fun w => zc_one (zc_trans (zc_of (show (1 : Int) = 0 + 1 by decide)) (zc_trans (zc_add (zc_symm (zc_trans (zc_mulL cd (zc_m0 y w)) (zc_of (Int.mul_zero _)))) (zc_refl 1)) z))
  have h2 : zc (cI * cI) (cd * (y * y)) := zc_trans cI_sq (zc_symm (by
    have := zc_sub z (zc_refl 1)
    rw [show cd * (y * y) + 1 - 1 = cd * (y * y) by omega] at this
    exact this))
  exact cd_nsq hy h2
theorem rok_oc {N : Nat} {c : Int} (h1 : zc (c * c) (rwv (ry N))) : oc (rxf N c, ry N) := by
  have e : rxf N c * rxf N c = c * c := by
    unfold rxf
    split
    · rfl
    · exact Int.neg_mul_neg _ _
  have h2 : zc (rxf N c * rxf N c) (rwv (ry N)) := by rw [e]; exact h1
  show zc (cd * rxf N c * rxf N c * ry N * ry N + 1 + rxf N c * rxf N c - ry N * ry N) 0
  generalize rxf N c = x at *
  generalize ry N = y at *
  have h3 := zc_mulR (cd * (y * y) + 1) h2
  have h4 : zc (rwv y * (cd * (y * y) + 1)) (y * y - 1) := by
    unfold rwv
    rw [Int.mul_assoc, Int.mul_comm (iv _)]
    exact zc_trans (zc_mulL _ (iv_mul (den_ne y))) (zc_of (Int.mul_one _))
  have h5 := zc_sub0.mp (zc_trans h3 h4)
  refine zc_trans (zc_of ?_) h5
  generalize cd = d
  grind
theorem evn_0 {c : Int} {N : Nat} (hb : N / 2 ^ 255 % 2 = 0) : evn c = rxf N c := by
  unfold evn rxf
  rw [hb]
  generalize c % 57896044618658097711785492504343953926634992332820282019728792003956564819949 = w
  rcases Int.emod_two_eq w with q | q
  · rw [q, if_neg (by decide), if_pos (by decide)]
  · rw [q, if_pos (by decide), if_neg (by decide)]
theorem evn_1 {c : Int} {N : Nat} (hb : N / 2 ^ 255 % 2 = 1) : -(evn c) = rxf N c := by
  unfold evn rxf
  rw [hb]
  generalize c % 57896044618658097711785492504343953926634992332820282019728792003956564819949 = w
  rcases Int.emod_two_eq w with q | q
  · rw [q, if_neg (by decide), if_neg (by decide)]
  · rw [q, if_pos (by decide), if_pos (by decide), Int.neg_neg]
theorem zc_n0 {c : Int} : zc (-c) 0 ↔ zc c 0 := by
  constructor
  · intro h
    have := zc_neg h
    rw [Int.neg_neg, Int.neg_zero] at this
    exact this
  · intro h
    have := zc_neg h
    rw [Int.neg_zero] at this
    exact this
theorem evn_z (c : Int) : decide (evn c % 57896044618658097711785492504343953926634992332820282019728792003956564819949 = 0) = decide (c % 57896044618658097711785492504343953926634992332820282019728792003956564819949 = 0) := by
  refine zc_d ?_
  unfold evn
  split
  · exact zc_n0
  · exact Iff.rfl
theorem m63 (r : Nat → Int64) : rN (vp_updL r 3 (r 3 &&& 9223372036854775807)) 4 = rN r 4 % 2 ^ 255 := by
  have hm : (9223372036854775807 : Int64).toBitVec.toNat = 2 ^ 63 - 1 := by decide
  have e := tN_and (r 3) 9223372036854775807 hm
  have h0 := tN_lt (r 0)
  have h1 := tN_lt (r 1)
  have h2 := tN_lt (r 2)
  rw [rN_4, rN_4, pk_uLs, pk_uLn (by omega), pk_uLn (by omega), pk_uLn (by omega), e]
  omega
/-- the class's constants -/
def kX (s : zSt) : Prop := zf s 38 0 0 ∧ zf s 39 cI 1 ∧ zf s 72 1 1 ∧ zf s 73 cd 1 ∧ zf s 74 (cd + cd) 2 ∧ rN (s.1 0) 4 = 57896044618658097711785492504343953926634992332820282019728792003956564819949 ∧ rN (s.1 1) 4 = pInv ∧ rN (s.1 2) 4 = pRt
theorem kX_row {s t : zSt} (h : kX s) (e : ∀ id, id ≤ 10 ∨ id = 38 ∨ id = 39 ∨ (67 ≤ id ∧ id ≤ 74) → t.1 id = s.1 id) : kX t := by
  obtain ⟨h1, h2, h3, h4, h5, h6, h7, h8⟩ := h
  refine ⟨zf_row h1 (e _ (by omega)), zf_row h2 (e _ (by omega)), zf_row h3 (e _ (by omega)), zf_row h4 (e _ (by omega)), zf_row h5 (e _ (by omega)), ?_, ?_, ?_⟩
  · rw [e 0 (by omega)]; exact h6
  · rw [e 1 (by omega)]; exact h7
  · rw [e 2 (by omega)]; exact h8
/-- the reference's constants -/
def kM (s : zSt) : Prop := mf s 0 0 1 ∧ mf s 1 1 1 ∧ mf s 2 cd 1 ∧ mf s 3 (cd + cd) 1 ∧ mf s 4 cI 1 ∧ w4 s 36 = 57896044618658097711785492504343953926634992332820282019728792003956564819949 ∧ w4 s 32 = 7237005577332262213973186563042994240857116359379907606001950938285454250989
theorem kM_row {s t : zSt} (h : kM s) (e : ∀ j, j < 80 → t.1 2 j = s.1 2 j) (e4 : ∀ j, 32 ≤ j → j < 40 → t.1 4 j = s.1 4 j) : kM t := by
  obtain ⟨h1, h2, h3, h4, h5, h6, h7⟩ := h
  refine ⟨mf_row h1 (fun j hj => e _ (by omega)), mf_row h2 (fun j hj => e _ (by omega)), mf_row h3 (fun j hj => e _ (by omega)), mf_row h4 (fun j hj => e _ (by omega)), mf_row h5 (fun j hj => e _ (by omega)), ?_, ?_⟩
  · rw [w4_keep (fun j hj => e4 _ (by omega) (by omega))]; exact h6
  · rw [w4_keep (fun j hj => e4 _ (by omega) (by omega))]; exact h7
theorem cX_comp {s : zSt} {P : Nat} {x y : Int} (fx : zf s (P + 0) x 1) (fy : zf s (P + 1) y 1) (ho : oc (x, y)) (hP : 40 < P) : (∀ id, id ≠ 40 → id ≠ P + 2 → id ≠ P + 3 → (fX0_complete P s).1 id = s.1 id) ∧ rX (fX0_complete P s) P (x, y) ∧ zf (fX0_complete P s) (P + 0) x 1 ∧ zf (fX0_complete P s) (P + 1) y 1 := by
  have eF : fX0_complete P s = fX1_multiply (P + 0) (P + 1) (P + 3) (fX1_become (P + 2) 1 s) := rfl
  rw [eF]
  obtain ⟨a1, a2⟩ := cX_one (s := s) (a := P + 2)
  have fx1 := zf_row (t := fX1_become (P + 2) 1 s) fx (a1 (P + 0) (by omega))
  have fy1 := zf_row (t := fX1_become (P + 2) 1 s) fy (a1 (P + 1) (by omega))
  generalize fX1_become (P + 2) 1 s = t1 at a1 a2 fx1 fy1 ⊢
  obtain ⟨b1, b2⟩ := cX_mul (out := P + 3) fx1 fy1 (by omega) (by omega) (by omega) (by omega)
  have fx2 := zf_row (t := fX1_multiply (P + 0) (P + 1) (P + 3) t1) fx1 (b1 (P + 0) (by omega) (by omega))
  have fy2 := zf_row (t := fX1_multiply (P + 0) (P + 1) (P + 3) t1) fy1 (b1 (P + 1) (by omega) (by omega))
  have fz2 := zf_row (t := fX1_multiply (P + 0) (P + 1) (P + 3) t1) a2 (b1 (P + 2) (by omega) (by omega))
  generalize fX1_multiply (P + 0) (P + 1) (P + 3) t1 = t2 at b1 b2 fx2 fy2 fz2 ⊢
  exact ⟨fun id n1 n2 n3 => by rw [b1 id n1 n3, a1 id n2], ⟨ho, 1, zc_one, zf_eq fx2 (Int.mul_one _).symm, zf_eq fy2 (Int.mul_one _).symm, fz2, zf_eq b2 (Int.mul_one _).symm⟩, fx2, fy2⟩
theorem rd_1 {ws P : Nat} {s t2 : zSt} (e : t2 = zW (fX8_move ws 82 s) 82 3 ((fX8_move ws 82 s).1 82 3 &&& 9223372036854775807)) (h : ¬ vX8_order 82 0 t2 < 0) : fX0_read ws P s = (false, t2) := by
  subst e
  unfold fX0_read
  dsimp only
  rw [if_neg h]
  rfl
theorem rd_2 {ws P : Nat} {s t2 t11 : zSt} (e : t2 = zW (fX8_move ws 82 s) 82 3 ((fX8_move ws 82 s).1 82 3 &&& 9223372036854775807)) (h : vX8_order 82 0 t2 < 0) (e2 : t11 = fX1_multiply 75 76 75 (fX1_subtract 75 72 75 (fX1_invert 76 76 (fX1_add 76 72 76 (fX1_multiply 73 75 76 (fX1_square (P + 1) 75 (fX1_load ws (P + 1) t2))))))) : (zfst (fX1_findRoot 75 (P + 0) t11) = true → fX0_read ws P s = fX0_read_a5 ws P (zsnd (fX1_findRoot 75 (P + 0) t11))) ∧ (zfst (fX1_findRoot 75 (P + 0) t11) = false → fX0_read ws P s = (false, zsnd (fX1_findRoot 75 (P + 0) t11))) := by
  subst e2
  subst e
  constructor
  · intro h2
    unfold fX0_read
    dsimp only
    rw [if_pos h]
    unfold fX0_read_a7
    dsimp only
    rw [h2, cond_true]
  · intro h2
    unfold fX0_read
    dsimp only
    rw [if_pos h]
    unfold fX0_read_a7
    dsimp only
    rw [h2, cond_false]
    rfl
theorem rd_50 {ws P : Nat} {t : zSt} (h : vX8_bit ws 4 255 t ≠ 1) : fX0_read_a5 ws P t = (true, fX0_complete P t) := by
  unfold fX0_read_a5
  dsimp only
  rw [if_pos h]
  rfl
theorem rd_51 {ws P : Nat} {t : zSt} (h : vX8_bit ws 4 255 t = 1) (h2 : zfst (fX1_isZero (P + 0) t) = true) : fX0_read_a5 ws P t = (false, zsnd (fX1_isZero (P + 0) t)) := by
  unfold fX0_read_a5
  dsimp only
  rw [if_neg (fun z => z h)]
  unfold fX0_read_a4
  dsimp only
  rw [h2, cond_true]
  rfl
theorem rd_52 {ws P : Nat} {t : zSt} (h : vX8_bit ws 4 255 t = 1) (h2 : zfst (fX1_isZero (P + 0) t) = false) : fX0_read_a5 ws P t = (true, fX0_complete P (fX1_negate (P + 0) (P + 0) (zsnd (fX1_isZero (P + 0) t)))) := by
  unfold fX0_read_a5
  dsimp only
  rw [if_neg (fun z => z h)]
  unfold fX0_read_a4
  dsimp only
  rw [h2, cond_false]
  rfl
theorem cX_read0 {s : zSt} {ws P N : Nat} {b : Bool} {c : Int} (hN : rN (s.1 ws) 4 = N) (hbc : rtv pRt cI (rwv (ry N)) = (b, c)) (hk : kX s) (hP : 60 < P ∧ (P + 3 < 67 ∨ 82 < P)) (hw : ¬ (38 ≤ ws ∧ ws ≤ 60) ∧ ws ≠ 75 ∧ ws ≠ 76 ∧ ws ≠ 82 ∧ ¬ (P ≤ ws ∧ ws ≤ P + 3)) :
    (∀ id, ¬ (40 ≤ id ∧ id ≤ 60) → id ≠ 75 → id ≠ 76 → id ≠ 82 → ¬ (P ≤ id ∧ id ≤ P + 3) → (zsnd (fX0_read ws P s)).1 id = s.1 id) ∧ zfst (fX0_read ws P s) = rokf N b c
      ∧ (rokf N b c = true → rX (zsnd (fX0_read ws P s)) P (rxf N c, ry N) ∧ zf (zsnd (fX0_read ws P s)) (P + 0) (rxf N c) 1 ∧ zf (zsnd (fX0_read ws P s)) (P + 1) (ry N) 1) := by
  have hR1 := @rd_1 ws P s
  have hR2 := @rd_2 ws P s
  have fr2 : ∀ id, id ≠ 82 → (zW (fX8_move ws 82 s) 82 3 ((fX8_move ws 82 s).1 82 3 &&& 9223372036854775807)).1 id = s.1 id := fun id h => by
    rw [zW_ne _ _ _ h]
    exact zL_n _ _ h
  have e82 : rN ((zW (fX8_move ws 82 s) 82 3 ((fX8_move ws 82 s).1 82 3 &&& 9223372036854775807)).1 82) 4 = N % 2 ^ 255 := by
    rw [zW_at, m63, ← hN]
    have e : rN ((fX8_move ws 82 s).1 82) 4 = rN (s.1 ws) 4 := rN_congr (fun i hi => by
      show (zL s 82 (va_cpy (s.1 ws) (s.1 82) 0 0 4)).1 82 i = _
      rw [zL_s, pk_cpy_in (Nat.zero_le _) (by omega), show 0 + (i - 0) = i by omega])
    rw [e]
  have hR1 := fun h => hR1 (t2 := zW (fX8_move ws 82 s) 82 3 ((fX8_move ws 82 s).1 82 3 &&& 9223372036854775807)) rfl h
  have hR2 := fun h t11 h2 => hR2 (t2 := zW (fX8_move ws 82 s) 82 3 ((fX8_move ws 82 s).1 82 3 &&& 9223372036854775807)) (t11 := t11) rfl h h2
  generalize zW (fX8_move ws 82 s) 82 3 ((fX8_move ws 82 s).1 82 3 &&& 9223372036854775807) = t2 at fr2 e82 hR1 hR2
  have eo : vX8_order 82 0 t2 < 0 ↔ N % 2 ^ 255 < 57896044618658097711785492504343953926634992332820282019728792003956564819949 := by
    rw [vX8_order_eq, cmp3_lt, e82, fr2 0 (by omega), hk.2.2.2.2.2.1]
  have ews : t2.1 ws = s.1 ws := fr2 ws hw.2.2.2.1
  have hk2 := kX_row (t := t2) hk (fun id _ => fr2 id (by omega))
  have eN : (s.1 ws) = t2.1 ws := ews.symm
  by_cases q : N % 2 ^ 255 < 57896044618658097711785492504343953926634992332820282019728792003956564819949
  · have hR := hR2 (eo.mpr q) _ rfl
    obtain ⟨k1, k2, k3, k4, k5, k6, k7, k8⟩ := hk2
    obtain ⟨l1, l2⟩ := cX_load (s := t2) (ws := ws) (out := P + 1) (by omega)
    rw [ews, hN] at l2
    have l2 : zf (fX1_load ws (P + 1) t2) (P + 1) (ry N) 1 := l2
    have j1 := zf_row (t := fX1_load ws (P + 1) t2) k1 (l1 38 (by omega))
    have j2 := zf_row (t := fX1_load ws (P + 1) t2) k2 (l1 39 (by omega))
    have j3 := zf_row (t := fX1_load ws (P + 1) t2) k3 (l1 72 (by omega))
    have j4 := zf_row (t := fX1_load ws (P + 1) t2) k4 (l1 73 (by omega))
    generalize fX1_load ws (P + 1) t2 = u0 at l1 l2 j1 j2 j3 j4 hR
    obtain ⟨w1, v1⟩ := cX_sq (out := 75) l2 (by omega) (by omega) (by omega)
    have f1_0 := zf_row (t := fX1_square (P + 1) 75 u0) j1 (w1 38 (by omega) (by omega))
    have f1_1 := zf_row (t := fX1_square (P + 1) 75 u0) j2 (w1 39 (by omega) (by omega))
    have f1_2 := zf_row (t := fX1_square (P + 1) 75 u0) j3 (w1 72 (by omega) (by omega))
    have f1_3 := zf_row (t := fX1_square (P + 1) 75 u0) j4 (w1 73 (by omega) (by omega))
    have f1_4 := zf_row (t := fX1_square (P + 1) 75 u0) l2 (w1 (P + 1) (by omega) (by omega))
    generalize fX1_square (P + 1) 75 u0 = t1 at w1 v1 f1_0 f1_1 f1_2 f1_3 f1_4 hR
    obtain ⟨w2, v2⟩ := cX_mul (out := 76) f1_3 v1 (by omega) (by omega) (by omega) (by omega)
    have f2_0 := zf_row (t := fX1_multiply 73 75 76 t1) f1_0 (w2 38 (by omega) (by omega))
    have f2_1 := zf_row (t := fX1_multiply 73 75 76 t1) f1_1 (w2 39 (by omega) (by omega))
    have f2_2 := zf_row (t := fX1_multiply 73 75 76 t1) f1_2 (w2 72 (by omega) (by omega))
    have f2_3 := zf_row (t := fX1_multiply 73 75 76 t1) v1 (w2 75 (by omega) (by omega))
    have f2_4 := zf_row (t := fX1_multiply 73 75 76 t1) f1_4 (w2 (P + 1) (by omega) (by omega))
    generalize fX1_multiply 73 75 76 t1 = t2 at w2 v2 f2_0 f2_1 f2_2 f2_3 f2_4 hR
    obtain ⟨w3, v3⟩ := cX_add (out := 76) v2 f2_2 (by omega)
    have f3_0 := zf_row (t := fX1_add 76 72 76 t2) f2_0 (w3 38 (by omega))
    have f3_1 := zf_row (t := fX1_add 76 72 76 t2) f2_1 (w3 39 (by omega))
    have f3_2 := zf_row (t := fX1_add 76 72 76 t2) f2_2 (w3 72 (by omega))
    have f3_3 := zf_row (t := fX1_add 76 72 76 t2) f2_3 (w3 75 (by omega))
    have f3_4 := zf_row (t := fX1_add 76 72 76 t2) f2_4 (w3 (P + 1) (by omega))
    generalize fX1_add 76 72 76 t2 = t3 at w3 v3 f3_0 f3_1 f3_2 f3_3 f3_4 hR
    have e1 : rN (t3.1 1) 4 = pInv := by
      rw [w3 1 (by omega), w2 1 (by omega) (by omega), w1 1 (by omega) (by omega), l1 1 (by omega)]
      exact k7
    obtain ⟨i1, i2⟩ := cX_invert (out := 76) v3 (by omega) e1 (by omega) (by omega)
    have g0 := zf_row (t := fX1_invert 76 76 t3) f3_4 (i1 (P + 1) (by omega) (by omega) (by omega))
    have g1 := zf_row (t := fX1_invert 76 76 t3) f3_0 (i1 38 (by omega) (by omega) (by omega))
    have g2 := zf_row (t := fX1_invert 76 76 t3) f3_1 (i1 39 (by omega) (by omega) (by omega))
    have g3 := zf_row (t := fX1_invert 76 76 t3) f3_2 (i1 72 (by omega) (by omega) (by omega))
    have g4 := zf_row (t := fX1_invert 76 76 t3) f3_3 (i1 75 (by omega) (by omega) (by omega))
    generalize fX1_invert 76 76 t3 = u4 at i1 i2 g0 g1 g2 g3 g4 hR
    obtain ⟨w5, v5⟩ := cX_sub (out := 75) g4 g3 (by omega)
    have f5_0 := zf_row (t := fX1_subtract 75 72 75 u4) g1 (w5 38 (by omega))
    have f5_1 := zf_row (t := fX1_subtract 75 72 75 u4) g2 (w5 39 (by omega))
    have f5_2 := zf_row (t := fX1_subtract 75 72 75 u4) i2 (w5 76 (by omega))
    have f5_3 := zf_row (t := fX1_subtract 75 72 75 u4) g0 (w5 (P + 1) (by omega))
    generalize fX1_subtract 75 72 75 u4 = t5 at w5 v5 f5_0 f5_1 f5_2 f5_3 hR
    obtain ⟨w6, v6⟩ := cX_mul (out := 75) v5 f5_2 (by omega) (by omega) (by omega) (by omega)
    have f6_0 := zf_row (t := fX1_multiply 75 76 75 t5) f5_0 (w6 38 (by omega) (by omega))
    have f6_1 := zf_row (t := fX1_multiply 75 76 75 t5) f5_1 (w6 39 (by omega) (by omega))
    have f6_2 := zf_row (t := fX1_multiply 75 76 75 t5) f5_3 (w6 (P + 1) (by omega) (by omega))
    generalize fX1_multiply 75 76 75 t5 = t6 at w6 v6 f6_0 f6_1 f6_2 hR
    have e2 : rN (t6.1 2) 4 = pRt := by
      rw [w6 2 (by omega) (by omega), w5 2 (by omega), i1 2 (by omega) (by omega) (by omega), w3 2 (by omega), w2 2 (by omega) (by omega), w1 2 (by omega) (by omega), l1 2 (by omega)]
      exact k8
    have ev : zf t6 75 (rwv (ry N)) 1 := v6
    obtain ⟨r1, r2, r3⟩ := cX_root (out := P + 0) ev f6_0 f6_1 (by omega) (by omega) e2 (by omega) (by omega)
    have y1 := zf_row (t := zsnd (fX1_findRoot 75 (P + 0) t6)) f6_2 (r1 (P + 1) (by omega) (by omega))
    have z1 := zf_row (t := zsnd (fX1_findRoot 75 (P + 0) t6)) f6_0 (r1 38 (by omega) (by omega))
    rw [hbc] at r2 r3
    dsimp only at r2 r3
    rw [r2] at hR
    have frr : ∀ id, ¬ (40 ≤ id ∧ id ≤ 60) → id ≠ 75 → id ≠ 76 → id ≠ 82 → ¬ (P ≤ id ∧ id ≤ P + 3) → (zsnd (fX1_findRoot 75 (P + 0) t6)).1 id = s.1 id := fun id n1 n2 n3 n4 n5 => by
      rw [r1 id n1 (by omega), w6 id (by omega) (by omega), w5 id (by omega), i1 id (by omega) (by omega) (by omega), w3 id (by omega), w2 id (by omega) (by omega), w1 id (by omega) (by omega), l1 id (by omega), fr2 id n4]
    clear r2 e2 ev
    have frw : (zsnd (fX1_findRoot 75 (P + 0) t6)).1 ws = s.1 ws := frr ws (by omega) hw.2.1 hw.2.2.1 hw.2.2.2.1 hw.2.2.2.2
    generalize zsnd (fX1_findRoot 75 (P + 0) t6) = t7 at r1 r3 y1 z1 hR frr frw
    by_cases q1 : b = true
    · have ho := rok_oc (c := c) (by
        have := rtv_sq (n := pRt) (I := cI) (x := rwv (ry N)) (by rw [hbc]; exact q1)
        rw [hbc] at this
        exact this)
      have fc := r3 q1
      have hb : vX8_bit ws 4 255 t7 = N / 2 ^ 255 % 2 := by rw [vX8_bit_eq ws 4 255 4 t7 (by omega), frw, hN]
      have hok : rokf N b c = !(decide (c % 57896044618658097711785492504343953926634992332820282019728792003956564819949 = 0) && decide (N / 2 ^ 255 % 2 = 1)) := by
        unfold rokf
        rw [decide_eq_true q, q1, Bool.true_and, Bool.true_and]
      by_cases q2 : N / 2 ^ 255 % 2 = 1
      · have ez := evn_z c
        obtain ⟨a1, a2⟩ := cX_isZero fc (by omega)
        have hz1 := @rd_51 ws P t7 (by rw [hb]; exact q2)
        have hz2 := @rd_52 ws P t7 (by rw [hb]; exact q2)
        rw [a2, ez] at hz1 hz2
        rw [decide_eq_true q2, Bool.and_true] at hok
        have fc2 := zf_row (t := zsnd (fX1_isZero (P + 0) t7)) fc (a1 (P + 0) (by omega))
        have y2 := zf_row (t := zsnd (fX1_isZero (P + 0) t7)) y1 (a1 (P + 1) (by omega))
        have z2 := zf_row (t := zsnd (fX1_isZero (P + 0) t7)) z1 (a1 38 (by omega))
        generalize zsnd (fX1_isZero (P + 0) t7) = t8 at a1 hz1 hz2 fc2 y2 z2
        by_cases q3 : c % 57896044618658097711785492504343953926634992332820282019728792003956564819949 = 0
        · rw [hR.1 q1, hz1 (decide_eq_true q3), hok, decide_eq_true q3]
          simp only [zfst_mk, zsnd_mk]
          exact ⟨fun id n1 n2 n3 n4 n5 => by rw [a1 id (by omega), frr id n1 n2 n3 n4 n5], rfl, fun h => absurd h (by decide)⟩
        · rw [hR.1 q1, hz2 (decide_eq_false q3), hok, decide_eq_false q3]
          simp only [zfst_mk, zsnd_mk]
          obtain ⟨b1, b2⟩ := cX_neg (out := P + 0) z2 fc2 (by omega)
          have y3 := zf_row (t := fX1_negate (P + 0) (P + 0) t8) y2 (b1 (P + 1) (by omega))
          generalize fX1_negate (P + 0) (P + 0) t8 = t9 at b1 b2 y3
          obtain ⟨c1, c2, c3, c4⟩ := cX_comp (zf_eq b2 (evn_1 q2)) y3 ho (by omega)
          refine ⟨fun id n1 n2 n3 n4 n5 => ?_, rfl, fun _ => ⟨c2, c3, c4⟩⟩
          rw [c1 id (by omega) (by omega) (by omega), b1 id (by omega), a1 id (by omega), frr id n1 n2 n3 n4 n5]
      · have hz0 := @rd_50 ws P t7 (by rw [hb]; exact q2)
        rw [decide_eq_false q2, Bool.and_false] at hok
        rw [hR.1 q1, hz0, hok]
        simp only [zfst_mk, zsnd_mk]
        obtain ⟨c1, c2, c3, c4⟩ := cX_comp (zf_eq fc (evn_0 (show N / 2 ^ 255 % 2 = 0 by omega))) y1 ho (by omega)
        refine ⟨fun id n1 n2 n3 n4 n5 => ?_, rfl, fun _ => ⟨c2, c3, c4⟩⟩
        rw [c1 id (by omega) (by omega) (by omega), frr id n1 n2 n3 n4 n5]
    · have q1' : b = false := by
        cases b with
        | true => exact absurd rfl q1
        | false => rfl
      have hok : rokf N b c = false := by
        unfold rokf
        rw [q1', Bool.false_and, Bool.and_false]
      rw [hR.2 q1', hok]
      simp only [zfst_mk, zsnd_mk]
      exact ⟨frr, trivial, fun h => absurd h (by decide)⟩
  · have hok : rokf N b c = false := by
      unfold rokf
      rw [decide_eq_false q, Bool.false_and]
    rw [hR1 (fun z => q (eo.mp z)), hok]
    simp only [zfst_mk, zsnd_mk]
    exact ⟨fun id _ _ _ n4 _ => fr2 id n4, trivial, fun h => absurd h (by decide)⟩
theorem rcv_eta (N : Nat) : rtv pRt cI (rwv (ry N)) = ((rcv N).1, (rcv N).2) := by
  have e : rtv pRt cI (rwv (ry N)) = rcv N := id rfl
  rw [e]
theorem cX_read {s : zSt} {ws P : Nat} (hk : kX s) (hP : 60 < P ∧ (P + 3 < 67 ∨ 82 < P)) (hw : ¬ (38 ≤ ws ∧ ws ≤ 60) ∧ ws ≠ 75 ∧ ws ≠ 76 ∧ ws ≠ 82 ∧ ¬ (P ≤ ws ∧ ws ≤ P + 3)) :
    (∀ id, ¬ (40 ≤ id ∧ id ≤ 60) → id ≠ 75 → id ≠ 76 → id ≠ 82 → ¬ (P ≤ id ∧ id ≤ P + 3) → (zsnd (fX0_read ws P s)).1 id = s.1 id) ∧ zfst (fX0_read ws P s) = rok (rN (s.1 ws) 4)
      ∧ (rok (rN (s.1 ws) 4) = true → rX (zsnd (fX0_read ws P s)) P (rxv (rN (s.1 ws) 4), ry (rN (s.1 ws) 4)) ∧ zf (zsnd (fX0_read ws P s)) (P + 0) (rxv (rN (s.1 ws) 4)) 1 ∧ zf (zsnd (fX0_read ws P s)) (P + 1) (ry (rN (s.1 ws) 4)) 1) := by
  have h := cX_read0 (s := s) (ws := ws) (P := P) rfl (rcv_eta (rN (s.1 ws) 4)) hk hP hw
  generalize rN (s.1 ws) 4 = N at h ⊢
  unfold rok rxv
  exact h
