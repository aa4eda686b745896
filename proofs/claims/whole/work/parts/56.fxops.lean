/-! the class's rows as numbers modulo p: row id stands for v, its limbs within k units -/
def zf (s : zSt) (id : Nat) (v : Int) (k : Nat) : Prop := zc (v10 (s.1 id)) v ∧ zrb (s.1 id) ((k : Int) * 83886080)
theorem zf_congr {s : zSt} {id k : Nat} {v w : Int} (h : zf s id v k) (e : zc v w) : zf s id w k := ⟨zc_trans h.1 e, h.2⟩
theorem zf_eq {s : zSt} {id k : Nat} {v w : Int} (h : zf s id v k) (e : v = w) : zf s id w k := e ▸ h
theorem zf_mono {s : zSt} {id k m : Nat} {v : Int} (h : zf s id v k) (e : k ≤ m) : zf s id v m := ⟨h.1, zrb_mono h.2 (by omega)⟩
theorem zf_row {s t : zSt} {id k : Nat} {v : Int} (h : zf s id v k) (e : t.1 id = s.1 id) : zf t id v k := by
  unfold zf
  rw [e]
  exact h
theorem kmul {k m : Nat} (h : k * m ≤ 20) : (k : Int) * 83886080 * ((m : Int) * 83886080) ≤ 144115188075855872 := by
  have h2 : ((k * m : Nat) : Int) ≤ 20 := by omega
  rw [Int.natCast_mul] at h2
  have h3 : (k : Int) * 83886080 * ((m : Int) * 83886080) = (k : Int) * (m : Int) * 7036874417766400 := by grind
  rw [h3]
  omega
theorem cX_mul {s : zSt} {a b out : Nat} {x y : Int} {k m : Nat} (fa : zf s a x k) (fb : zf s b y m) (ha : a ≠ 40) (hb : b ≠ 40) (ho : out ≠ 40) (hk : k * m ≤ 20) : (∀ id, id ≠ 40 → id ≠ out → (fX1_multiply a b out s).1 id = s.1 id) ∧ zf (fX1_multiply a b out s) out (x * y) 1 := by
  obtain ⟨h1, h2, h3⟩ := vX_mul a b out s ha hb ho fa.2 fb.2 (kmul hk)
  exact ⟨fun id q1 q2 => h1 id (by simp; omega), zc_trans h2 (zc_mul fa.1 fb.1), h3⟩
theorem cX_sq {s : zSt} {a out : Nat} {x : Int} {k : Nat} (fa : zf s a x k) (ha : a ≠ 40) (ho : out ≠ 40) (hk : k ≤ 4) : (∀ id, id ≠ 40 → id ≠ out → (fX1_square a out s).1 id = s.1 id) ∧ zf (fX1_square a out s) out (x * x) 1 := by
  obtain ⟨h1, h2, h3⟩ := vX_sq a out s ha ho fa.2 (kmul (Nat.le_trans (Nat.mul_le_mul hk hk) (by decide))) (by omega)
  exact ⟨fun id q1 q2 => h1 id (by simp; omega), zc_trans h2 (zc_mul fa.1 fa.1), h3⟩
theorem cX_add {s : zSt} {a b out : Nat} {x y : Int} {k m : Nat} (fa : zf s a x k) (fb : zf s b y m) (hk : k + m ≤ 100) : (∀ id, id ≠ out → (fX1_add a b out s).1 id = s.1 id) ∧ zf (fX1_add a b out s) out (x + y) (k + m) := by
  obtain ⟨h1, h2, h3⟩ := vX_add a b out s fa.2 fb.2 (by omega)
  exact ⟨fun id q => h1 id (by simp; omega), by rw [h3]; exact zc_add fa.1 fb.1, zrb_mono h2 (by omega)⟩
theorem cX_sub {s : zSt} {a b out : Nat} {x y : Int} {k m : Nat} (fa : zf s a x k) (fb : zf s b y m) (hk : k + m ≤ 100) : (∀ id, id ≠ out → (fX1_subtract a b out s).1 id = s.1 id) ∧ zf (fX1_subtract a b out s) out (x - y) (k + m) := by
  obtain ⟨h1, h2, h3⟩ := vX_sub a b out s fa.2 fb.2 (by omega)
  exact ⟨fun id q => h1 id (by simp; omega), by rw [h3]; exact zc_sub fa.1 fb.1, zrb_mono h2 (by omega)⟩
theorem cX_neg {s : zSt} {a out : Nat} {x : Int} {k : Nat} (h0 : zf s 38 0 0) (fa : zf s a x k) (hk : k ≤ 100) : (∀ id, id ≠ out → (fX1_negate a out s).1 id = s.1 id) ∧ zf (fX1_negate a out s) out (-x) k := by
  obtain ⟨h1, h2⟩ := cX_sub (out := out) h0 fa (by omega)
  refine ⟨h1, ?_⟩
  rw [Int.zero_sub, Nat.zero_add] at h2
  exact h2
theorem cX_scale {s : zSt} {a out : Nat} {x : Int} (fa : zf s a x 2) : (∀ id, id ≠ out → (fX1_scale a 121665 out s).1 id = s.1 id) ∧ zf (fX1_scale a 121665 out s) out (x * 121665) 4 := by
  obtain ⟨h1, h2, h3⟩ := vX_scale a out s (zrb_mono fa.2 (by omega))
  exact ⟨fun id q => h1 id (by simp; omega), zc_trans h2 (zc_mul fa.1 (zc_refl _)), zrb_mono h3 (by omega)⟩
theorem cX_move {s : zSt} {a out : Nat} {x : Int} {k : Nat} (fa : zf s a x k) : (∀ id, id ≠ out → (fX1_move a out s).1 id = s.1 id) ∧ zf (fX1_move a out s) out x k := by
  obtain ⟨h1, h2, h3⟩ := vX_move a out s
  exact ⟨fun id q => h1 id (by simp; omega), by rw [h3]; exact fa.1, fun i hi => by rw [h2 i hi]; exact fa.2 i hi⟩
theorem cX_one {s : zSt} {a : Nat} : (∀ id, id ≠ a → (fX1_become a 1 s).1 id = s.1 id) ∧ zf (fX1_become a 1 s) a 1 1 := by
  obtain ⟨h1, h2, h3⟩ := vX_become a 1 s (by decide)
  exact ⟨fun id q => h1 id (by simp; omega), by rw [h2]; exact zc_of (by decide), zrb_mono h3 (by omega)⟩
theorem cX_zero {s : zSt} {a : Nat} : (∀ id, id ≠ a → (fX1_become a 0 s).1 id = s.1 id) ∧ zf (fX1_become a 0 s) a 0 1 := by
  obtain ⟨h1, h2, h3⟩ := vX_become a 0 s (by decide)
  exact ⟨fun id q => h1 id (by simp; omega), by rw [h2]; exact zc_of (by decide), zrb_mono h3 (by omega)⟩
theorem cX_load {s : zSt} {ws out : Nat} (hw : ws ≠ out) : (∀ id, id ≠ out → (fX1_load ws out s).1 id = s.1 id) ∧ zf (fX1_load ws out s) out ((rN (s.1 ws) 4 % 2 ^ 255 : Nat) : Int) 1 := by
  obtain ⟨h1, h2, h3⟩ := vX_load ws out s hw
  exact ⟨fun id q => h1 id (by simp; omega), by rw [h2]; exact zc_refl _, zrb_mono h3 (by omega)⟩
theorem cX_store {s : zSt} {a ws : Nat} {x : Int} {k : Nat} (fa : zf s a x k) (hk : k ≤ 8) (hw : ws ≠ 41) : (∀ id, id ≠ 41 → id ≠ ws → (fX1_store a ws s).1 id = s.1 id) ∧ (rN ((fX1_store a ws s).1 ws) 4 : Int) = x % 57896044618658097711785492504343953926634992332820282019728792003956564819949 := by
  obtain ⟨h1, h2⟩ := vX_store a ws s hw (zrb_mono fa.2 (by omega))
  exact ⟨fun id q1 q2 => h1 id (by simp; omega), by rw [h2]; exact zc_emod fa.1⟩
theorem cX_isZero {s : zSt} {a : Nat} {x : Int} {k : Nat} (fa : zf s a x k) (hk : k ≤ 8) : (∀ id, id ≠ 41 → (zsnd (fX1_isZero a s)).1 id = s.1 id) ∧ zfst (fX1_isZero a s) = decide (x % 57896044618658097711785492504343953926634992332820282019728792003956564819949 = 0) := by
  obtain ⟨h1, h2⟩ := vX_isZero a s (zrb_mono fa.2 (by omega))
  exact ⟨fun id q1 => h1 id (by simp; omega), by rw [h2, zc_emod fa.1]⟩
theorem cX_areSame {s : zSt} {a b : Nat} {x y : Int} {k m : Nat} (fa : zf s a x k) (fb : zf s b y m) (hk : k + m ≤ 8) : (∀ id, id ≠ 41 → id ≠ 42 → (zsnd (fX1_areSame a b s)).1 id = s.1 id) ∧ zfst (fX1_areSame a b s) = decide ((x - y) % 57896044618658097711785492504343953926634992332820282019728792003956564819949 = 0) := by
  obtain ⟨h1, h2⟩ := vX_areSame a b s fa.2 fb.2 (by omega)
  exact ⟨fun id q1 q2 => h1 id (by simp; omega), by rw [h2, zc_emod (zc_sub fa.1 fb.1)]⟩
theorem cX_isOdd {s : zSt} {a : Nat} {x : Int} {k : Nat} (fa : zf s a x k) (hk : k ≤ 8) : (∀ id, id ≠ 41 → (zsnd (fX1_isOdd a s)).1 id = s.1 id) ∧ zfst (fX1_isOdd a s) = decide (x % 57896044618658097711785492504343953926634992332820282019728792003956564819949 % 2 = 1) := by
  obtain ⟨h1, h2⟩ := vX_isOdd a s (zrb_mono fa.2 (by omega))
  exact ⟨fun id q1 => h1 id (by simp; omega), by rw [h2, zc_emod fa.1]⟩
/-- the power of a row, by digits of four bits -/
theorem pw_sq (x : Int) (n : Nat) : x ^ n * x ^ n = x ^ (2 * n) := by rw [← Int.pow_add]; congr 1; omega
theorem cX_raise {s : zSt} {a e out : Nat} {x : Int} {k : Nat} (fa : zf s a x k) (hk : k ≤ 4) (ha : a ≠ 45) (ho : out ≠ 40 ∧ ¬ (45 ≤ out ∧ out ≤ 60)) (he : e ≠ 40 ∧ e ≠ out ∧ ¬ (45 ≤ e ∧ e ≤ 60)) :
    (∀ id, id ≠ 40 → id ≠ out → ¬ (45 ≤ id ∧ id ≤ 60) → (fX1_raise a e out s).1 id = s.1 id) ∧ zf (fX1_raise a e out s) out (x ^ rN (s.1 e) 4) 1 := by
  have eF : fX1_raise a e out s = zdown (fX1_raise_77 e out) 64 (fX1_become out 1 (ziter fX1_raise_25 2 14 (fX1_move a 46 (fX1_become 45 1 s)))) := rfl
  rw [eF]
  obtain ⟨h1, h2⟩ := cX_one (s := s) (a := 45)
  generalize fX1_become 45 1 s = t1 at h1 h2
  obtain ⟨m1, m2⟩ := cX_move (s := t1) (out := 46) (zf_row fa (h1 a ha))
  generalize fX1_move a 46 t1 = t2 at m1 m2
  have H := ziter_I fX1_raise_25 (fun i σ => 2 ≤ i ∧ (∀ id, id ≠ 40 → ¬ (45 ≤ id ∧ id ≤ 60) → σ.1 id = s.1 id) ∧ ∀ j, j < i → zf σ (45 + j) (x ^ j) 4) 16 ?_ 14 2 t2 (by omega) ?_
  rotate_left
  · intro i σ hi ⟨g0, g1, g2⟩
    have f1 := g2 (i - 1) (by omega)
    have f2 := g2 1 (by omega)
    obtain ⟨p1, p2⟩ := cX_mul (s := σ) (out := 45 + i) f1 f2 (by omega) (by omega) (by omega) (by omega)
    refine ⟨by omega, fun id q1 q2 => ?_, fun j hj => ?_⟩
    · show (fX1_multiply (45 + (i - 1)) (45 + 1) (45 + i) σ).1 id = _
      rw [p1 id q1 (by omega)]
      exact g1 id q1 q2
    · show zf (fX1_multiply (45 + (i - 1)) (45 + 1) (45 + i) σ) (45 + j) (x ^ j) 4
      by_cases q : j = i
      · subst q
        refine zf_mono (zf_eq p2 ?_) (by omega)
        rw [← Int.pow_add]
        congr 1
        omega
      · exact zf_row (g2 j (by omega)) (p1 _ (by omega) (by omega))
  · refine ⟨Nat.le_refl _, fun id q1 q2 => ?_, fun j hj => ?_⟩
    · rw [m1 id (by omega), h1 id (by omega)]
    · by_cases q : j = 1
      · subst q
        exact zf_mono (zf_eq m2 (by rw [Int.pow_one])) hk
      · have : j = 0 := by omega
        subst this
        exact zf_mono (zf_eq (zf_row h2 (m1 45 (by omega))) (by rw [Int.pow_zero])) (by omega)
  generalize ziter fX1_raise_25 2 14 t2 = t3 at H
  obtain ⟨-, g1, g2⟩ := H
  obtain ⟨n1, n2⟩ := cX_one (s := t3) (a := out)
  generalize fX1_become out 1 t3 = t4 at n1 n2
  have hN := rN_lt (s.1 e) 4
  have K := zdown_I (fX1_raise_77 e out) (fun j σ => j ≤ 64 ∧ (∀ id, id ≠ 40 → id ≠ out → ¬ (45 ≤ id ∧ id ≤ 60) → σ.1 id = s.1 id) ∧ (∀ i, i < 16 → zf σ (45 + i) (x ^ i) 4) ∧ zf σ out (x ^ (rN (s.1 e) 4 / 2 ^ (4 * j))) 1) ?_ 64 t4 ?_
  rotate_left
  · intro j σ ⟨q0, q1, q2, q3⟩
    have S := ziter_I (fX1_raise_85 out) (fun i τ => (∀ id, id ≠ 40 → id ≠ out → τ.1 id = σ.1 id) ∧ zf τ out (x ^ (2 ^ i * (rN (s.1 e) 4 / 2 ^ (4 * (j + 1))))) 1) 4 (fun i τ hi ⟨w1, w2⟩ => by
        obtain ⟨y1, y2⟩ := cX_sq (s := τ) (out := out) w2 ho.1 ho.1 (by omega)
        refine ⟨fun id r1 r2 => ?_, ?_⟩
        · show (fX1_square out out τ).1 id = _
          rw [y1 id r1 r2]
          exact w1 id r1 r2
        · refine zf_eq y2 ?_
          rw [pw_sq, ← Nat.mul_assoc]
          congr 2
          rw [Nat.pow_succ]
          omega) 4 0 σ (by omega) ⟨fun _ _ _ => rfl, zf_eq q3 (by rw [Nat.pow_zero, Nat.one_mul])⟩
    have eG : ∀ u, u = ziter (fX1_raise_85 out) 0 4 σ → fX1_raise_77 e out j σ = fX1_multiply out (45 + vX8_nibble e j u) out u := fun u h => by rw [h]; rfl
    generalize hu : ziter (fX1_raise_85 out) 0 4 σ = u at S
    rw [eG u hu.symm]
    obtain ⟨w1, w2⟩ := S
    have ee : u.1 e = s.1 e := by rw [w1 e he.1 he.2.1, q1 e he.1 he.2.1 he.2.2]
    have en : vX8_nibble e j u = rN (s.1 e) 4 / 2 ^ (4 * j) % 16 := by rw [vX8_nibble_eq e j 4 u (by omega), ee]
    rw [en]
    have hn : rN (s.1 e) 4 / 2 ^ (4 * j) % 16 < 16 := Nat.mod_lt _ (by decide)
    have f1 := zf_row (q2 _ hn) (w1 (45 + rN (s.1 e) 4 / 2 ^ (4 * j) % 16) (by omega) (by omega))
    obtain ⟨y1, y2⟩ := cX_mul (s := u) (out := out) w2 f1 ho.1 (by omega) ho.1 (by omega)
    refine ⟨by omega, fun id r1 r2 r3 => ?_, fun i hi => ?_, ?_⟩
    · rw [y1 id r1 r2, w1 id r1 r2]
      exact q1 id r1 r2 r3
    · refine zf_row (q2 i hi) ?_
      rw [y1 _ (by omega) (by omega), w1 _ (by omega) (by omega)]
    · refine zf_eq y2 ?_
      rw [← Int.pow_add]
      congr 1
      have e3 : rN (s.1 e) 4 / 2 ^ (4 * (j + 1)) = rN (s.1 e) 4 / 2 ^ (4 * j) / 16 := by
        rw [Nat.div_div_eq_div_mul, show 4 * (j + 1) = 4 * j + 4 by omega, Nat.pow_add]
      rw [e3]
      omega
  · refine ⟨Nat.le_refl _, fun id r1 r2 r3 => ?_, fun i hi => ?_, ?_⟩
    · rw [n1 id r2]
      exact g1 id r1 r3
    · exact zf_row (g2 i hi) (n1 _ (by omega))
    · refine zf_eq n2 ?_
      rw [Nat.div_eq_of_lt hN, Int.pow_zero]
  generalize zdown (fX1_raise_77 e out) 64 t4 = t5 at K
  refine ⟨K.2.1, zf_eq K.2.2.2 ?_⟩
  rw [Nat.mul_zero, Nat.pow_zero, Nat.div_one]
