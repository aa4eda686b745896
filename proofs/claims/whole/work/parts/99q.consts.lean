/-! the constants that the reference's constructor makes -/
theorem zc_pwm {a n r : Nat} (hn : n < 2 ^ 255) (h : pwm 57896044618658097711785492504343953926634992332820282019728792003956564819949 255 a n = r) : zc (((a : Nat) : Int) ^ n) (r : Int) := by
  rw [pwm_ok 57896044618658097711785492504343953926634992332820282019728792003956564819949 255 a n hn] at h
  rw [← Int.natCast_pow]
  generalize a ^ n = X at h ⊢
  exact ⟨((X / 57896044618658097711785492504343953926634992332820282019728792003956564819949 : Nat) : Int), by omega⟩
def bN : Nat := 46316835694926478169428394003475163141307993866256225615783033603165251855960
def bS : Nat := 26187595835145689230469591415084376402084551887632582719101735842039498021991
theorem ry_b : ry bN = bP.2 := by decide +kernel
theorem base_S : zc (rwv bP.2) (bS : Int) := by
  unfold rwv
  have hz : ¬ zc (cd * (bP.2 * bP.2) + 1) 0 := fun h => absurd (zc_emod h) (by decide +kernel)
  have h1 : zc (bP.2 * bP.2 - 1) ((bS : Int) * (cd * (bP.2 * bP.2) + 1)) := zc_of_emod (by decide +kernel)
  have h2 := iv_mul hz
  generalize cd * (bP.2 * bP.2) + 1 = z at h1 h2 hz ⊢
  have h3 := zc_mul h1 (zc_refl (iv z))
  rw [Int.mul_assoc] at h3
  exact zc_trans h3 (zc_trans (zc_mul (zc_refl _) h2) (zc_of (Int.mul_one _)))
theorem base_p : zc (rwv bP.2 ^ pRt) (42783823269122696939284341094755422415180979639778424813682678720006717057747 : Int) := zc_trans (zc_pow base_S pRt) (zc_pwm (a := bS) (n := pRt) (r := 42783823269122696939284341094755422415180979639778424813682678720006717057747) (by decide +kernel) (by decide +kernel))
theorem base_ok : rok bN = true ∧ pe (rxv bN, ry bN) bP := by
  have hp := base_p
  have hS := base_S
  have hr : rcv bN = (true, rwv bP.2 ^ pRt) := by
    unfold rcv
    rw [ry_b]
    unfold rtv
    generalize rwv bP.2 ^ pRt = c at hp ⊢
    generalize rwv bP.2 = X at hS ⊢
    have h1 : zc (c * c - X) 0 := zc_sub0.mp (zc_trans (zc_mul hp hp) (zc_trans (zc_of_emod (by decide +kernel)) (zc_symm hS)))
    rw [if_pos (by rw [zc_emod h1]; rfl)]
  unfold rok rxv
  rw [hr, ry_b]
  dsimp only
  generalize rwv bP.2 ^ pRt = c at hp ⊢
  have hc := zc_emod hp
  refine ⟨?_, ?_, zc_refl _⟩
  · unfold rokf
    have e1 : decide (bN % 2 ^ 255 < 57896044618658097711785492504343953926634992332820282019728792003956564819949) = true := by decide +kernel
    have e2 : decide (bN / 2 ^ 255 % 2 = 1) = false := by decide +kernel
    rw [e1, e2]
    simp
  · show zc (rxf bN c) bP.1
    unfold rxf
    rw [if_neg (by rw [hc]; decide +kernel)]
    have hn := zc_sub (zc_refl 0) hp
    rw [Int.zero_sub, Int.zero_sub] at hn
    exact zc_trans hn (zc_of_emod (by decide +kernel))
theorem gM_k2 (s : zSt) : zk2 (gM s) = zk2 s := by
  unfold gM
  simp only [k2_fX10_pack, k2_fX10_multiply, k2_fX10_invert, k2_fX10_put, k2_fX10_reduce, k2_fX10_add, k2_fX10_subtract, k2_fX10_raise, k2_fX10_words]
set_option maxHeartbeats 4000000 in
theorem gM_done {s : zSt} (hz : s.1 2 = fun _ => 0) : kM (gM s) ∧ w4 (gM s) 24 = bN ∧ ∀ id, id ≠ 2 → id ≠ 3 → id ≠ 4 → (gM s).1 id = s.1 id := by
  unfold gM
  dsimp only
  have z0 : mf s 0 0 1 := by
    have e : gr s 0 = fun _ => 0 := funext fun i => by unfold gr; rw [hz]
    refine ⟨?_, fun i hi => ?_⟩
    · rw [e, rv_z]
      exact zc_refl 0
    · rw [e]
      show -(((1 : Nat) : Int) * 131072) ≤ (0 : Int64).toInt ∧ (0 : Int64).toInt ≤ ((1 : Nat) : Int) * 131072
      decide
  have fr : ∀ id, id ≠ 2 → id ≠ 3 → id ≠ 4 → s.1 id = s.1 id := fun _ _ _ _ => rfl
  obtain ⟨F1, -⟩ := cM_words (s := s) 36 (-19) (-1) (-1) 9223372036854775807
  have v1 : w4 (fX10_words 36 (-19) (-1) (-1) 9223372036854775807 s) 36 = 57896044618658097711785492504343953926634992332820282019728792003956564819949 := by rw [cM_words_v]; decide +kernel
  generalize fX10_words 36 (-19) (-1) (-1) 9223372036854775807 s = t1 at F1 v1 ⊢
  have fr : ∀ id, id ≠ 2 → id ≠ 3 → id ≠ 4 → t1.1 id = s.1 id := fun id q2 q3 q4 => (funext fun j => F1 id j (by omega)).trans (fr id q2 q3 q4)
  have z0 := mf_row (t := t1) z0 (fun j hj => F1 2 _ (by omega))
  have w36 := v1
  obtain ⟨F2, -⟩ := cM_words (s := t1) 32 6346243789798364141 1503914060200516822 0 1152921504606846976
  have v2 : w4 (fX10_words 32 6346243789798364141 1503914060200516822 0 1152921504606846976 t1) 32 = 7237005577332262213973186563042994240857116359379907606001950938285454250989 := by rw [cM_words_v]; decide +kernel
  generalize fX10_words 32 6346243789798364141 1503914060200516822 0 1152921504606846976 t1 = t2 at F2 v2 ⊢
  have fr : ∀ id, id ≠ 2 → id ≠ 3 → id ≠ 4 → t2.1 id = s.1 id := fun id q2 q3 q4 => (funext fun j => F2 id j (by omega)).trans (fr id q2 q3 q4)
  have z0 := mf_row (t := t2) z0 (fun j hj => F2 2 _ (by omega))
  have w36 := (w4_keep (s := t1) (t := t2) (q := 36) (fun j hj => F2 4 _ (by omega))).trans w36
  have w32 := v2
  obtain ⟨F3, v3⟩ := cM_put (s := t2) (r := 1) (v := 1) (by decide) (by decide)
  have v3 := mf_eq v3 (show (1 : Int64).toInt = 1 by decide)
  generalize fX10_put 1 1 t2 = t3 at F3 v3 ⊢
  have fr : ∀ id, id ≠ 2 → id ≠ 3 → id ≠ 4 → t3.1 id = s.1 id := fun id q2 q3 q4 => (funext fun j => F3 id j (by omega)).trans (fr id q2 q3 q4)
  have z0 := mf_row (t := t3) z0 (fun j hj => F3 2 _ (by omega))
  have w36 := (w4_keep (s := t2) (t := t3) (q := 36) (fun j hj => F3 4 _ (by omega))).trans w36
  have w32 := (w4_keep (s := t2) (t := t3) (q := 32) (fun j hj => F3 4 _ (by omega))).trans w32
  have m1 := v3
  obtain ⟨F4, v4⟩ := cM_put (s := t3) (r := 26) (v := 2) (by decide) (by decide)
  have v4 := mf_eq v4 (show (2 : Int64).toInt = 2 by decide)
  generalize fX10_put 26 2 t3 = t4 at F4 v4 ⊢
  have fr : ∀ id, id ≠ 2 → id ≠ 3 → id ≠ 4 → t4.1 id = s.1 id := fun id q2 q3 q4 => (funext fun j => F4 id j (by omega)).trans (fr id q2 q3 q4)
  have z0 := mf_row (t := t4) z0 (fun j hj => F4 2 _ (by omega))
  have m1 := mf_row (t := t4) m1 (fun j hj => F4 2 _ (by omega))
  have w36 := (w4_keep (s := t3) (t := t4) (q := 36) (fun j hj => F4 4 _ (by omega))).trans w36
  have w32 := (w4_keep (s := t3) (t := t4) (q := 32) (fun j hj => F4 4 _ (by omega))).trans w32
  have p26 := v4
  obtain ⟨F5, -⟩ := cM_words (s := t4) 0 (-5) (-1) (-1) 2305843009213693951
  have v5 : w4 (fX10_words 0 (-5) (-1) (-1) 2305843009213693951 t4) 0 = 14474011154664524427946373126085988481658748083205070504932198000989141204987 := by rw [cM_words_v]; decide +kernel
  generalize fX10_words 0 (-5) (-1) (-1) 2305843009213693951 t4 = t5 at F5 v5 ⊢
  have fr : ∀ id, id ≠ 2 → id ≠ 3 → id ≠ 4 → t5.1 id = s.1 id := fun id q2 q3 q4 => (funext fun j => F5 id j (by omega)).trans (fr id q2 q3 q4)
  have z0 := mf_row (t := t5) z0 (fun j hj => F5 2 _ (by omega))
  have m1 := mf_row (t := t5) m1 (fun j hj => F5 2 _ (by omega))
  have p26 := mf_row (t := t5) p26 (fun j hj => F5 2 _ (by omega))
  have w36 := (w4_keep (s := t4) (t := t5) (q := 36) (fun j hj => F5 4 _ (by omega))).trans w36
  have w32 := (w4_keep (s := t4) (t := t5) (q := 32) (fun j hj => F5 4 _ (by omega))).trans w32
  have w0 := v5
  obtain ⟨F6, v6⟩ := cM_raise (r := 4) (e := 0) p26 (by decide) (by decide) (by decide)
  rw [w0] at v6
  generalize fX10_raise 4 26 0 t5 = t6 at F6 v6 ⊢
  have fr : ∀ id, id ≠ 2 → id ≠ 3 → id ≠ 4 → t6.1 id = s.1 id := fun id q2 q3 q4 => (funext fun j => F6 id j (by omega) (by omega) (by omega)).trans (fr id q2 q3 q4)
  have z0 := mf_row (t := t6) z0 (fun j hj => F6 2 _ (by omega) (by omega) (by omega))
  have m1 := mf_row (t := t6) m1 (fun j hj => F6 2 _ (by omega) (by omega) (by omega))
  have p26 := mf_row (t := t6) p26 (fun j hj => F6 2 _ (by omega) (by omega) (by omega))
  have w36 := (w4_keep (s := t5) (t := t6) (q := 36) (fun j hj => F6 4 _ (by omega) (by omega) (by omega))).trans w36
  have w32 := (w4_keep (s := t5) (t := t6) (q := 32) (fun j hj => F6 4 _ (by omega) (by omega) (by omega))).trans w32
  have w0 := (w4_keep (s := t5) (t := t6) (q := 0) (fun j hj => F6 4 _ (by omega) (by omega) (by omega))).trans w0
  have m4 := v6
  obtain ⟨F7, v7⟩ := cM_put (s := t6) (r := 26) (v := 121665) (by decide) (by decide)
  have v7 := mf_eq v7 (show (121665 : Int64).toInt = 121665 by decide)
  generalize fX10_put 26 121665 t6 = t7 at F7 v7 ⊢
  have fr : ∀ id, id ≠ 2 → id ≠ 3 → id ≠ 4 → t7.1 id = s.1 id := fun id q2 q3 q4 => (funext fun j => F7 id j (by omega)).trans (fr id q2 q3 q4)
  have z0 := mf_row (t := t7) z0 (fun j hj => F7 2 _ (by omega))
  have m1 := mf_row (t := t7) m1 (fun j hj => F7 2 _ (by omega))
  have m4 := mf_row (t := t7) m4 (fun j hj => F7 2 _ (by omega))
  have w36 := (w4_keep (s := t6) (t := t7) (q := 36) (fun j hj => F7 4 _ (by omega))).trans w36
  have w32 := (w4_keep (s := t6) (t := t7) (q := 32) (fun j hj => F7 4 _ (by omega))).trans w32
  have w0 := (w4_keep (s := t6) (t := t7) (q := 0) (fun j hj => F7 4 _ (by omega))).trans w0
  have p26 := v7
  obtain ⟨F8, v8⟩ := cM_sub (r := 26) z0 p26 (by decide)
  generalize fX10_subtract 26 0 26 t7 = t8 at F8 v8 ⊢
  have fr : ∀ id, id ≠ 2 → id ≠ 3 → id ≠ 4 → t8.1 id = s.1 id := fun id q2 q3 q4 => (funext fun j => F8 id j (by omega)).trans (fr id q2 q3 q4)
  have z0 := mf_row (t := t8) z0 (fun j hj => F8 2 _ (by omega))
  have m1 := mf_row (t := t8) m1 (fun j hj => F8 2 _ (by omega))
  have m4 := mf_row (t := t8) m4 (fun j hj => F8 2 _ (by omega))
  have w36 := (w4_keep (s := t7) (t := t8) (q := 36) (fun j hj => F8 4 _ (by omega))).trans w36
  have w32 := (w4_keep (s := t7) (t := t8) (q := 32) (fun j hj => F8 4 _ (by omega))).trans w32
  have w0 := (w4_keep (s := t7) (t := t8) (q := 0) (fun j hj => F8 4 _ (by omega))).trans w0
  have p26 := v8
  obtain ⟨F9, v9⟩ := cM_put (s := t8) (r := 41) (v := 121666) (by decide) (by decide)
  have v9 := mf_eq v9 (show (121666 : Int64).toInt = 121666 by decide)
  generalize fX10_put 41 121666 t8 = t9 at F9 v9 ⊢
  have fr : ∀ id, id ≠ 2 → id ≠ 3 → id ≠ 4 → t9.1 id = s.1 id := fun id q2 q3 q4 => (funext fun j => F9 id j (by omega)).trans (fr id q2 q3 q4)
  have z0 := mf_row (t := t9) z0 (fun j hj => F9 2 _ (by omega))
  have m1 := mf_row (t := t9) m1 (fun j hj => F9 2 _ (by omega))
  have m4 := mf_row (t := t9) m4 (fun j hj => F9 2 _ (by omega))
  have p26 := mf_row (t := t9) p26 (fun j hj => F9 2 _ (by omega))
  have w36 := (w4_keep (s := t8) (t := t9) (q := 36) (fun j hj => F9 4 _ (by omega))).trans w36
  have w32 := (w4_keep (s := t8) (t := t9) (q := 32) (fun j hj => F9 4 _ (by omega))).trans w32
  have w0 := (w4_keep (s := t8) (t := t9) (q := 0) (fun j hj => F9 4 _ (by omega))).trans w0
  have p41 := v9
  obtain ⟨F10, v10⟩ := cM_inv (r := 41) p41 (by decide) (by decide) (by decide)
  generalize fX10_invert 41 41 t9 = t10 at F10 v10 ⊢
  have fr : ∀ id, id ≠ 2 → id ≠ 3 → id ≠ 4 → t10.1 id = s.1 id := fun id q2 q3 q4 => (funext fun j => F10 id j (by omega) (by omega) (by omega) (by omega) (by omega)).trans (fr id q2 q3 q4)
  have z0 := mf_row (t := t10) z0 (fun j hj => F10 2 _ (by omega) (by omega) (by omega) (by omega) (by omega))
  have m1 := mf_row (t := t10) m1 (fun j hj => F10 2 _ (by omega) (by omega) (by omega) (by omega) (by omega))
  have m4 := mf_row (t := t10) m4 (fun j hj => F10 2 _ (by omega) (by omega) (by omega) (by omega) (by omega))
  have p26 := mf_row (t := t10) p26 (fun j hj => F10 2 _ (by omega) (by omega) (by omega) (by omega) (by omega))
  have w36 := (w4_keep (s := t9) (t := t10) (q := 36) (fun j hj => F10 4 _ (by omega) (by omega) (by omega) (by omega) (by omega))).trans w36
  have w32 := (w4_keep (s := t9) (t := t10) (q := 32) (fun j hj => F10 4 _ (by omega) (by omega) (by omega) (by omega) (by omega))).trans w32
  have p41 := v10
  obtain ⟨F11, v11⟩ := cM_mul (r := 2) p26 p41 (by decide)
  generalize fX10_multiply 2 26 41 t10 = t11 at F11 v11 ⊢
  have fr : ∀ id, id ≠ 2 → id ≠ 3 → id ≠ 4 → t11.1 id = s.1 id := fun id q2 q3 q4 => (funext fun j => F11 id j (by omega) (by omega)).trans (fr id q2 q3 q4)
  have z0 := mf_row (t := t11) z0 (fun j hj => F11 2 _ (by omega) (by omega))
  have m1 := mf_row (t := t11) m1 (fun j hj => F11 2 _ (by omega) (by omega))
  have m4 := mf_row (t := t11) m4 (fun j hj => F11 2 _ (by omega) (by omega))
  have p26 := mf_row (t := t11) p26 (fun j hj => F11 2 _ (by omega) (by omega))
  have p41 := mf_row (t := t11) p41 (fun j hj => F11 2 _ (by omega) (by omega))
  have w36 := (w4_keep (s := t10) (t := t11) (q := 36) (fun j hj => F11 4 _ (by omega) (by omega))).trans w36
  have w32 := (w4_keep (s := t10) (t := t11) (q := 32) (fun j hj => F11 4 _ (by omega) (by omega))).trans w32
  have m2 := v11
  obtain ⟨F12, v12⟩ := cM_add (r := 3) m2 m2 (by decide)
  generalize fX10_add 3 2 2 t11 = t12 at F12 v12 ⊢
  have fr : ∀ id, id ≠ 2 → id ≠ 3 → id ≠ 4 → t12.1 id = s.1 id := fun id q2 q3 q4 => (funext fun j => F12 id j (by omega)).trans (fr id q2 q3 q4)
  have z0 := mf_row (t := t12) z0 (fun j hj => F12 2 _ (by omega))
  have m1 := mf_row (t := t12) m1 (fun j hj => F12 2 _ (by omega))
  have m4 := mf_row (t := t12) m4 (fun j hj => F12 2 _ (by omega))
  have p26 := mf_row (t := t12) p26 (fun j hj => F12 2 _ (by omega))
  have p41 := mf_row (t := t12) p41 (fun j hj => F12 2 _ (by omega))
  have m2 := mf_row (t := t12) m2 (fun j hj => F12 2 _ (by omega))
  have w36 := (w4_keep (s := t11) (t := t12) (q := 36) (fun j hj => F12 4 _ (by omega))).trans w36
  have w32 := (w4_keep (s := t11) (t := t12) (q := 32) (fun j hj => F12 4 _ (by omega))).trans w32
  have m3 := v12
  obtain ⟨F13, v13⟩ := cM_reduce m3 (by decide)
  generalize fX10_reduce 3 t12 = t13 at F13 v13 ⊢
  have fr : ∀ id, id ≠ 2 → id ≠ 3 → id ≠ 4 → t13.1 id = s.1 id := fun id q2 q3 q4 => (funext fun j => F13 id j (by omega)).trans (fr id q2 q3 q4)
  have z0 := mf_row (t := t13) z0 (fun j hj => F13 2 _ (by omega))
  have m1 := mf_row (t := t13) m1 (fun j hj => F13 2 _ (by omega))
  have m4 := mf_row (t := t13) m4 (fun j hj => F13 2 _ (by omega))
  have p26 := mf_row (t := t13) p26 (fun j hj => F13 2 _ (by omega))
  have p41 := mf_row (t := t13) p41 (fun j hj => F13 2 _ (by omega))
  have m2 := mf_row (t := t13) m2 (fun j hj => F13 2 _ (by omega))
  have w36 := (w4_keep (s := t12) (t := t13) (q := 36) (fun j hj => F13 4 _ (by omega))).trans w36
  have w32 := (w4_keep (s := t12) (t := t13) (q := 32) (fun j hj => F13 4 _ (by omega))).trans w32
  have m3 := v13
  obtain ⟨F14, v14⟩ := cM_put (s := t13) (r := 26) (v := 4) (by decide) (by decide)
  have v14 := mf_eq v14 (show (4 : Int64).toInt = 4 by decide)
  generalize fX10_put 26 4 t13 = t14 at F14 v14 ⊢
  have fr : ∀ id, id ≠ 2 → id ≠ 3 → id ≠ 4 → t14.1 id = s.1 id := fun id q2 q3 q4 => (funext fun j => F14 id j (by omega)).trans (fr id q2 q3 q4)
  have z0 := mf_row (t := t14) z0 (fun j hj => F14 2 _ (by omega))
  have m1 := mf_row (t := t14) m1 (fun j hj => F14 2 _ (by omega))
  have m4 := mf_row (t := t14) m4 (fun j hj => F14 2 _ (by omega))
  have p41 := mf_row (t := t14) p41 (fun j hj => F14 2 _ (by omega))
  have m2 := mf_row (t := t14) m2 (fun j hj => F14 2 _ (by omega))
  have m3 := mf_row (t := t14) m3 (fun j hj => F14 2 _ (by omega))
  have w36 := (w4_keep (s := t13) (t := t14) (q := 36) (fun j hj => F14 4 _ (by omega))).trans w36
  have w32 := (w4_keep (s := t13) (t := t14) (q := 32) (fun j hj => F14 4 _ (by omega))).trans w32
  have p26 := v14
  obtain ⟨F15, v15⟩ := cM_put (s := t14) (r := 41) (v := 5) (by decide) (by decide)
  have v15 := mf_eq v15 (show (5 : Int64).toInt = 5 by decide)
  generalize fX10_put 41 5 t14 = t15 at F15 v15 ⊢
  have fr : ∀ id, id ≠ 2 → id ≠ 3 → id ≠ 4 → t15.1 id = s.1 id := fun id q2 q3 q4 => (funext fun j => F15 id j (by omega)).trans (fr id q2 q3 q4)
  have z0 := mf_row (t := t15) z0 (fun j hj => F15 2 _ (by omega))
  have m1 := mf_row (t := t15) m1 (fun j hj => F15 2 _ (by omega))
  have m4 := mf_row (t := t15) m4 (fun j hj => F15 2 _ (by omega))
  have m2 := mf_row (t := t15) m2 (fun j hj => F15 2 _ (by omega))
  have m3 := mf_row (t := t15) m3 (fun j hj => F15 2 _ (by omega))
  have p26 := mf_row (t := t15) p26 (fun j hj => F15 2 _ (by omega))
  have w36 := (w4_keep (s := t14) (t := t15) (q := 36) (fun j hj => F15 4 _ (by omega))).trans w36
  have w32 := (w4_keep (s := t14) (t := t15) (q := 32) (fun j hj => F15 4 _ (by omega))).trans w32
  have p41 := v15
  obtain ⟨F16, v16⟩ := cM_inv (r := 41) p41 (by decide) (by decide) (by decide)
  generalize fX10_invert 41 41 t15 = t16 at F16 v16 ⊢
  have fr : ∀ id, id ≠ 2 → id ≠ 3 → id ≠ 4 → t16.1 id = s.1 id := fun id q2 q3 q4 => (funext fun j => F16 id j (by omega) (by omega) (by omega) (by omega) (by omega)).trans (fr id q2 q3 q4)
  have z0 := mf_row (t := t16) z0 (fun j hj => F16 2 _ (by omega) (by omega) (by omega) (by omega) (by omega))
  have m1 := mf_row (t := t16) m1 (fun j hj => F16 2 _ (by omega) (by omega) (by omega) (by omega) (by omega))
  have m4 := mf_row (t := t16) m4 (fun j hj => F16 2 _ (by omega) (by omega) (by omega) (by omega) (by omega))
  have m2 := mf_row (t := t16) m2 (fun j hj => F16 2 _ (by omega) (by omega) (by omega) (by omega) (by omega))
  have m3 := mf_row (t := t16) m3 (fun j hj => F16 2 _ (by omega) (by omega) (by omega) (by omega) (by omega))
  have p26 := mf_row (t := t16) p26 (fun j hj => F16 2 _ (by omega) (by omega) (by omega) (by omega) (by omega))
  have w36 := (w4_keep (s := t15) (t := t16) (q := 36) (fun j hj => F16 4 _ (by omega) (by omega) (by omega) (by omega) (by omega))).trans w36
  have w32 := (w4_keep (s := t15) (t := t16) (q := 32) (fun j hj => F16 4 _ (by omega) (by omega) (by omega) (by omega) (by omega))).trans w32
  have p41 := v16
  obtain ⟨F17, v17⟩ := cM_mul (r := 42) p26 p41 (by decide)
  generalize fX10_multiply 42 26 41 t16 = t17 at F17 v17 ⊢
  have fr : ∀ id, id ≠ 2 → id ≠ 3 → id ≠ 4 → t17.1 id = s.1 id := fun id q2 q3 q4 => (funext fun j => F17 id j (by omega) (by omega)).trans (fr id q2 q3 q4)
  have z0 := mf_row (t := t17) z0 (fun j hj => F17 2 _ (by omega) (by omega))
  have m1 := mf_row (t := t17) m1 (fun j hj => F17 2 _ (by omega) (by omega))
  have m4 := mf_row (t := t17) m4 (fun j hj => F17 2 _ (by omega) (by omega))
  have m2 := mf_row (t := t17) m2 (fun j hj => F17 2 _ (by omega) (by omega))
  have m3 := mf_row (t := t17) m3 (fun j hj => F17 2 _ (by omega) (by omega))
  have p26 := mf_row (t := t17) p26 (fun j hj => F17 2 _ (by omega) (by omega))
  have p41 := mf_row (t := t17) p41 (fun j hj => F17 2 _ (by omega) (by omega))
  have w36 := (w4_keep (s := t16) (t := t17) (q := 36) (fun j hj => F17 4 _ (by omega) (by omega))).trans w36
  have w32 := (w4_keep (s := t16) (t := t17) (q := 32) (fun j hj => F17 4 _ (by omega) (by omega))).trans w32
  have p42 := v17
  obtain ⟨F18, v18⟩ := cM_pack (p := 24) p42 (by decide)
  generalize fX10_pack 24 42 t17 = t18 at F18 v18 ⊢
  have fr : ∀ id, id ≠ 2 → id ≠ 3 → id ≠ 4 → t18.1 id = s.1 id := fun id q2 q3 q4 => (funext fun j => F18 id j (by omega) (by omega) (by omega)).trans (fr id q2 q3 q4)
  have z0 := mf_row (t := t18) z0 (fun j hj => F18 2 _ (by omega) (by omega) (by omega))
  have m1 := mf_row (t := t18) m1 (fun j hj => F18 2 _ (by omega) (by omega) (by omega))
  have m4 := mf_row (t := t18) m4 (fun j hj => F18 2 _ (by omega) (by omega) (by omega))
  have m2 := mf_row (t := t18) m2 (fun j hj => F18 2 _ (by omega) (by omega) (by omega))
  have m3 := mf_row (t := t18) m3 (fun j hj => F18 2 _ (by omega) (by omega) (by omega))
  have p26 := mf_row (t := t18) p26 (fun j hj => F18 2 _ (by omega) (by omega) (by omega))
  have p41 := mf_row (t := t18) p41 (fun j hj => F18 2 _ (by omega) (by omega) (by omega))
  have p42 := mf_row (t := t18) p42 (fun j hj => F18 2 _ (by omega) (by omega) (by omega))
  have w36 := (w4_keep (s := t17) (t := t18) (q := 36) (fun j hj => F18 4 _ (by omega) (by omega) (by omega))).trans w36
  have w32 := (w4_keep (s := t17) (t := t18) (q := 32) (fun j hj => F18 4 _ (by omega) (by omega) (by omega))).trans w32
  have w24 := v18
  have c4 : zc ((2 : Int) ^ 14474011154664524427946373126085988481658748083205070504932198000989141204987) cI := zc_pwm (a := 2) (n := 14474011154664524427946373126085988481658748083205070504932198000989141204987) (r := 19681161376707505956807079304988542015446066515923890162744021073123829784752) (by decide +kernel) (by decide +kernel)
  have c2 : zc ((0 - 121665) * iv 121666) cd := zc_trans (zc_mul (zc_refl _) (zc_pwm (a := 121666) (n := pInv) (r := 37095705934669439343138083508754565189542113879843219016388785533085940283556) (by decide +kernel) (by decide +kernel))) (zc_of_emod (by decide +kernel))
  have c5 : zc (4 * iv 5) (46316835694926478169428394003475163141307993866256225615783033603165251855960 : Int) := zc_trans (zc_mul (zc_refl _) (zc_pwm (a := 5) (n := pInv) (r := 11579208923731619542357098500868790785326998466564056403945758400791312963990) (by decide +kernel) (by decide +kernel))) (zc_of_emod (by decide +kernel))
  refine ⟨⟨z0, m1, mf_congr m2 c2, mf_congr m3 (zc_add c2 c2), mf_congr m4 c4, w36, w32⟩, ?_, fr⟩
  rw [zc_emod c5] at w24
  have e : ((bN : Nat) : Int) = 46316835694926478169428394003475163141307993866256225615783033603165251855960 % 57896044618658097711785492504343953926634992332820282019728792003956564819949 := by decide +kernel
  exact Int.ofNat_inj.mp (w24.trans e.symm)
