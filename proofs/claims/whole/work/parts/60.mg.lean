/-! the reference's field numbers: sixteen limbs of 16 bits in row 2, at 16 r -/
def gr (s : zSt) (r : Nat) : Nat → Int64 := fun i => s.1 2 (16 * r + i)
theorem gr_at (s : zSt) (r i : Nat) (x : Int64) : gr (zW s 2 (16 * r + i) x) r = vp_updL (gr s r) i x := by
  funext j
  unfold gr
  rw [zW_at]
  by_cases e : j = i
  · rw [e, pk_uLs, pk_uLs]
  · rw [pk_uLn (by omega), pk_uLn e]
/-- what changes in row 2: the row r alone -/
def mfr (r : Nat) (s t : zSt) : Prop := ∀ id j, ¬ (id = 2 ∧ 16 * r ≤ j ∧ j < 16 * r + 16) → t.1 id j = s.1 id j
theorem mfr.refl {r : Nat} {s : zSt} : mfr r s s := fun _ _ _ => rfl
theorem mfr.trans {r : Nat} {s t u : zSt} (h : mfr r s t) (g : mfr r t u) : mfr r s u := fun id j q => (g id j q).trans (h id j q)
theorem mfr_w {r i : Nat} {s : zSt} (x : Int64) (hi : i < 16) : mfr r s (zW s 2 (16 * r + i) x) := fun id j q => by
  by_cases e : id = 2
  · subst e
    rw [zW_at, pk_uLn (by omega)]
  · rw [zW_ne _ _ _ e]
theorem mq_zsl16 (x : Int64) (h1 : -140737488355328 ≤ x.toInt) (h2 : x.toInt < 140737488355328) : (zsl x 16).toInt = x.toInt * 65536 := by
  have e := mq_zsl x (k := 16) (by omega)
  have e1 := tN_int x
  have e2 := tN_int (zsl x 16)
  have e3 := tN_lt x
  rw [e] at e2
  split at e1 <;> split at e2 <;> omega
theorem mR_step (r i : Nat) (s : zSt) (hi : i < 15) : fX10_reduce_2 r i s = zW (zW s 2 (16 * r + i) (gr s r i - zsl (zsr (gr s r i) 16) 16)) 2 (16 * r + (i + 1)) (gr s r (i + 1) + zsr (gr s r i) 16) := by
  unfold fX10_reduce_2 fX10_reduce_a1 fX10_reduce_a2
  dsimp only
  rw [if_neg (by omega), zW_at, pk_uLn (show 16 * r + i + 1 ≠ 16 * r + i by omega)]
  rfl
theorem mR_last (r : Nat) (s : zSt) : fX10_reduce_2 r 15 s = zW (zW s 2 (16 * r + 15) (gr s r 15 - zsl (zsr (gr s r 15) 16) 16)) 2 (16 * r + 0) (gr s r 0 + 38 * zsr (gr s r 15) 16) := by
  unfold fX10_reduce_2 fX10_reduce_a1 fX10_reduce_a2
  dsimp only
  rw [if_pos (by omega), zW_at, pk_uLn (show 16 * r ≠ 16 * r + 15 by omega)]
  rfl
theorem mR_chain (r : Nat) (s : zSt) (B C : Int) (hB : ∀ i, i < 16 → -B ≤ (gr s r i).toInt ∧ (gr s r i).toInt ≤ B) (hC : B + C ≤ 65536 * (C - 1)) (hC0 : 0 ≤ C) (hBC : B + C < 4611686018427387904) :
    mfr r s (ziter (fX10_reduce_2 r) 0 15 s) ∧ rv 16 (gr (ziter (fX10_reduce_2 r) 0 15 s) r) 16 = rv 16 (gr s r) 16 ∧ (∀ j, j < 15 → 0 ≤ (gr (ziter (fX10_reduce_2 r) 0 15 s) r j).toInt ∧ (gr (ziter (fX10_reduce_2 r) 0 15 s) r j).toInt < 65536)
      ∧ -C ≤ (gr (ziter (fX10_reduce_2 r) 0 15 s) r 15).toInt - (gr s r 15).toInt ∧ (gr (ziter (fX10_reduce_2 r) 0 15 s) r 15).toInt - (gr s r 15).toInt ≤ C := by
  have H := ziter_I (fX10_reduce_2 r) (fun i σ => mfr r s σ ∧ rv 16 (gr σ r) 16 = rv 16 (gr s r) 16 ∧ (∀ j, j < i → 0 ≤ (gr σ r j).toInt ∧ (gr σ r j).toInt < 65536) ∧ (∀ j, i < j → gr σ r j = gr s r j) ∧ -C ≤ (gr σ r i).toInt - (gr s r i).toInt ∧ (gr σ r i).toInt - (gr s r i).toInt ≤ C) 15 ?_ 15 0 s (by omega)
    ⟨mfr.refl, rfl, fun j hj => absurd hj (Nat.not_lt_zero j), fun _ _ => rfl, by omega, by omega⟩
  · exact ⟨H.1, H.2.1, H.2.2.1, H.2.2.2.2⟩
  intro i σ hi ⟨h1, h2, h3, h4, h5, h6⟩
  have hBi := hB i (by omega)
  have hBi1 := hB (i + 1) (by omega)
  have e4 := h4 (i + 1) (by omega)
  have hr := mq_r16 (gr σ r i)
  have hz := mq_zsl16 (zsr (gr σ r i) 16) (by omega) (by omega)
  have hx : (gr σ r i - zsl (zsr (gr σ r i) 16) 16).toInt = (gr σ r i).toInt % 65536 := by
    rw [mq_subL (by omega) (by omega)]
    omega
  have hs : (gr σ r (i + 1) + zsr (gr σ r i) 16).toInt = (gr σ r (i + 1)).toInt + (zsr (gr σ r i) 16).toInt := by
    rw [e4]
    exact mq_addL (by omega) (by omega)
  rw [mR_step r i σ hi]
  have eF : gr (zW (zW σ 2 (16 * r + i) (gr σ r i - zsl (zsr (gr σ r i) 16) 16)) 2 (16 * r + (i + 1)) (gr σ r (i + 1) + zsr (gr σ r i) 16)) r = vp_updL (vp_updL (gr σ r) i (gr σ r i - zsl (zsr (gr σ r i) 16) 16)) (i + 1) (gr σ r (i + 1) + zsr (gr σ r i) 16) := by
    rw [gr_at, gr_at]
  refine ⟨(h1.trans (mfr_w _ (by omega))).trans (mfr_w _ (by omega)), ?_, ?_, ?_, ?_⟩
  · rw [eF, rv_upd (show i + 1 < 16 by omega), rv_upd (show i < 16 by omega), pk_uLn (show i + 1 ≠ i by omega), hs, hx, h2]
    have e2 : (2 : Int) ^ (16 * (i + 1)) = 65536 * 2 ^ (16 * i) := zpw 16 i
    have e3 : (gr σ r i).toInt % 65536 - (gr σ r i).toInt = -(65536 * ((gr σ r i).toInt / 65536)) := by omega
    have e5 : (gr σ r (i + 1)).toInt + (gr σ r i).toInt / 65536 - (gr σ r (i + 1)).toInt = (gr σ r i).toInt / 65536 := by omega
    rw [e2, hr, e3, e5]
    have : ∀ (A q P : Int), A + -(65536 * q) * P + q * (65536 * P) = A := by intros; grind
    exact this _ _ _
  · intro j hj
    rw [eF, pk_uLn (by omega)]
    by_cases e : j = i
    · rw [e, pk_uLs, hx]
      omega
    · rw [pk_uLn e]
      exact h3 j (by omega)
  · intro j hj
    rw [eF, pk_uLn (by omega), pk_uLn (by omega)]
    exact h4 j (by omega)
  · rw [eF, pk_uLs, hs, e4]
    omega
/-- what reduce makes of a row that stands for T -/
def zmr (f : Nat → Int64) (T : Int) : Prop := (f 0).toInt = T % 65536 + 38 * (T / 2 ^ 256) ∧ (∀ j, 1 ≤ j → j < 16 → 0 ≤ (f j).toInt ∧ (f j).toInt < 65536) ∧ rv 16 f 16 = T % 2 ^ 256 + 38 * (T / 2 ^ 256)
theorem mq_38 (x : Int64) (h1 : -242720316759336205 ≤ x.toInt) (h2 : x.toInt ≤ 242720316759336205) : (38 * x).toInt = 38 * x.toInt := by
  have e : (38 : Int64).toInt = 38 := by decide
  rw [mq_mulL (by rw [e]; omega) (by rw [e]; omega), e]
theorem mR_reduce (r : Nat) (s : zSt) (B C D : Int) (hB : ∀ i, i < 16 → -B ≤ (gr s r i).toInt ∧ (gr s r i).toInt ≤ B) (hC : B + C ≤ 65536 * (C - 1)) (hC0 : 0 ≤ C) (hBC : B + C < 4611686018427387904) (hD : B + C ≤ 65536 * D) (hD0 : D ≤ 242720316759336000) :
    mfr r s (fX10_reduce r s) ∧ zmr (gr (fX10_reduce r s) r) (rv 16 (gr s r) 16) ∧ -D ≤ rv 16 (gr s r) 16 / 2 ^ 256 ∧ rv 16 (gr s r) 16 / 2 ^ 256 ≤ D := by
  obtain ⟨h1, h2, h3, h5, h6⟩ := mR_chain r s B C hB hC hC0 hBC
  have hB15 := hB 15 (by omega)
  have eF : ∀ u, u = ziter (fX10_reduce_2 r) 0 15 s → fX10_reduce r s = fX10_reduce_2 r 15 u := fun u e => by
    rw [e]
    show ziter (fX10_reduce_2 r) 0 (15 + 1) s = _
    rw [ziter_succ]
  generalize hu : ziter (fX10_reduce_2 r) 0 15 s = u at h1 h2 h3 h5 h6
  rw [eF u hu.symm, mR_last]
  generalize hT : rv 16 (gr s r) 16 = T at *
  have hT2 : T = rv 16 (gr u r) 15 + (gr u r 15).toInt * 2 ^ (16 * 15) := by
    rw [← rv_succ]
    exact h2.symm
  have hL := rv_range (w := 16) (n := 15) (r := gr u r) (fun i hi => by
    have := h3 i hi
    omega)
  have hr := mq_r16 (gr u r 15)
  have hz := mq_zsl16 (zsr (gr u r 15) 16) (by omega) (by omega)
  have h00 := h3 0 (by omega)
  have hq : T / 2 ^ 256 = (gr u r 15).toInt / 65536 := by omega
  have hx : (gr u r 15 - zsl (zsr (gr u r 15) 16) 16).toInt = (gr u r 15).toInt % 65536 := by
    rw [mq_subL (by omega) (by omega)]
    omega
  have h38 := mq_38 (zsr (gr u r 15) 16) (by omega) (by omega)
  have hs : (gr u r 0 + 38 * zsr (gr u r 15) 16).toInt = (gr u r 0).toInt + 38 * ((gr u r 15).toInt / 65536) := by
    rw [mq_addL (by omega) (by omega), h38, hr]
  have hlow : T % 65536 = (gr u r 0).toInt := by
    obtain ⟨k, hk⟩ := zlow 16 (fun i => (gr u r i).toInt) 15
    have hk2 : T = (gr u r 0).toInt + 2 ^ 16 * k := by
      rw [← hk]
      exact h2.symm
    omega
  have e1 : gr (zW (zW u 2 (16 * r + 15) (gr u r 15 - zsl (zsr (gr u r 15) 16) 16)) 2 (16 * r + 0) (gr u r 0 + 38 * zsr (gr u r 15) 16)) r = vp_updL (vp_updL (gr u r) 15 (gr u r 15 - zsl (zsr (gr u r 15) 16) 16)) 0 (gr u r 0 + 38 * zsr (gr u r 15) 16) := by
    rw [gr_at, gr_at]
  refine ⟨(h1.trans (mfr_w _ (by omega))).trans (mfr_w _ (by omega)), ⟨?_, ?_, ?_⟩, by omega, by omega⟩
  · rw [e1, pk_uLs, hs, hlow, hq]
  · intro j j1 j2
    rw [e1, pk_uLn (by omega)]
    by_cases e : j = 15
    · rw [e, pk_uLs, hx]
      omega
    · rw [pk_uLn e]
      exact h3 j (by omega)
  · rw [e1, rv_upd (by omega), rv_upd (by omega), pk_uLn (show (0 : Nat) ≠ 15 by omega), h2, hs, hx, hq]
    omega
/-- row r stands for v, its limbs within k times 2^17 -/
def mf (s : zSt) (r : Nat) (v : Int) (k : Nat) : Prop := zc (rv 16 (gr s r) 16) v ∧ ∀ i, i < 16 → -((k : Int) * 131072) ≤ (gr s r i).toInt ∧ (gr s r i).toInt ≤ (k : Int) * 131072
theorem mf_congr {s : zSt} {id k : Nat} {v w : Int} (h : mf s id v k) (e : zc v w) : mf s id w k := ⟨zc_trans h.1 e, h.2⟩
theorem mf_eq {s : zSt} {id k : Nat} {v w : Int} (h : mf s id v k) (e : v = w) : mf s id w k := e ▸ h
theorem mf_mono {s : zSt} {id k m : Nat} {v : Int} (h : mf s id v k) (e : k ≤ m) : mf s id v m := ⟨h.1, fun i hi => by have := h.2 i hi; omega⟩
theorem mf_row {s t : zSt} {r k : Nat} {v : Int} (h : mf s r v k) (e : ∀ j, j < 16 → t.1 2 (16 * r + j) = s.1 2 (16 * r + j)) : mf t r v k := by
  have e2 : ∀ j, j < 16 → gr t r j = gr s r j := e
  refine ⟨?_, fun i hi => ?_⟩
  · rw [rv_congr e2]
    exact h.1
  · rw [e2 i hi]
    exact h.2 i hi
theorem zmr_c {f : Nat → Int64} {T : Int} (h : zmr f T) : zc (rv 16 f 16) T := ⟨-(2 * (T / 2 ^ 256)), by rw [h.2.2]; omega⟩
theorem cM_reduce {s : zSt} {r k : Nat} {v : Int} (h : mf s r v k) (hk : k ≤ 100) : mfr r s (fX10_reduce r s) ∧ mf (fX10_reduce r s) r v 1 := by
  obtain ⟨h1, h2, h3, h4⟩ := mR_reduce r s 13107200 300 205 (fun i hi => by have := h.2 i hi; omega) (by omega) (by omega) (by omega) (by omega) (by omega)
  refine ⟨h1, zc_trans (zmr_c h2) h.1, fun i hi => ?_⟩
  by_cases q : i = 0
  · rw [q, h2.1]
    omega
  · have := h2.2.1 i (by omega) hi
    omega
theorem cM_add {s : zSt} {r a b k m : Nat} {x y : Int} (fa : mf s a x k) (fb : mf s b y m) (hk : k + m ≤ 100) : mfr r s (fX10_add r a b s) ∧ mf (fX10_add r a b s) r (x + y) (k + m) := by
  have h := zmap (F := fX10_add_3 r a b) (s0 := s) 2 (16 * r) 16 (fun i => gr s a i + gr s b i) (fun i σ hi h => by
    show zW σ 2 (16 * r + i) (σ.1 2 (16 * a + i) + σ.1 2 (16 * b + i)) = _
    rw [h 2 (16 * a + i) (by omega), h 2 (16 * b + i) (by omega)]
    rfl)
  obtain ⟨g1, g2⟩ := h
  have e : ∀ i, i < 16 → gr (fX10_add r a b s) r i = gr s a i + gr s b i := fun i hi => g2 i hi
  have e2 : ∀ i, i < 16 → (gr (fX10_add r a b s) r i).toInt = (gr s a i).toInt + (gr s b i).toInt := fun i hi => by
    have h3 := fa.2 i hi
    have h4 := fb.2 i hi
    rw [e i hi, mq_addL (by omega) (by omega)]
  refine ⟨fun id j q => g1 id j (by omega), ?_, fun i hi => ?_⟩
  · have e3 : ∀ n, n ≤ 16 → rv 16 (gr (fX10_add r a b s) r) n = rv 16 (gr s a) n + rv 16 (gr s b) n := fun n => by
      induction n with
      | zero => intro _; rfl
      | succ n ih =>
        intro hn
        rw [rv_succ, rv_succ, rv_succ, ih (by omega), e2 n (by omega), Int.add_mul]
        omega
    rw [e3 16 (Nat.le_refl _)]
    exact zc_add fa.1 fb.1
  · have h3 := fa.2 i hi
    have h4 := fb.2 i hi
    rw [e2 i hi]
    omega
theorem cM_sub {s : zSt} {r a b k m : Nat} {x y : Int} (fa : mf s a x k) (fb : mf s b y m) (hk : k + m ≤ 100) : mfr r s (fX10_subtract r a b s) ∧ mf (fX10_subtract r a b s) r (x - y) (k + m) := by
  have h := zmap (F := fX10_subtract_3 r a b) (s0 := s) 2 (16 * r) 16 (fun i => gr s a i - gr s b i) (fun i σ hi h => by
    show zW σ 2 (16 * r + i) (σ.1 2 (16 * a + i) - σ.1 2 (16 * b + i)) = _
    rw [h 2 (16 * a + i) (by omega), h 2 (16 * b + i) (by omega)]
    rfl)
  obtain ⟨g1, g2⟩ := h
  have e : ∀ i, i < 16 → gr (fX10_subtract r a b s) r i = gr s a i - gr s b i := fun i hi => g2 i hi
  have e2 : ∀ i, i < 16 → (gr (fX10_subtract r a b s) r i).toInt = (gr s a i).toInt - (gr s b i).toInt := fun i hi => by
    have h3 := fa.2 i hi
    have h4 := fb.2 i hi
    rw [e i hi, mq_subL (by omega) (by omega)]
  refine ⟨fun id j q => g1 id j (by omega), ?_, fun i hi => ?_⟩
  · have e3 : ∀ n, n ≤ 16 → rv 16 (gr (fX10_subtract r a b s) r) n = rv 16 (gr s a) n - rv 16 (gr s b) n := fun n => by
      induction n with
      | zero => intro _; rfl
      | succ n ih =>
        intro hn
        rw [rv_succ, rv_succ, rv_succ, ih (by omega), e2 n (by omega), Int.sub_mul]
        omega
    rw [e3 16 (Nat.le_refl _)]
    exact zc_sub fa.1 fb.1
  · have h3 := fa.2 i hi
    have h4 := fb.2 i hi
    rw [e2 i hi]
    omega
theorem cM_copy {s : zSt} {r a k : Nat} {x : Int} (fa : mf s a x k) : mfr r s (fX10_copyOf r a s) ∧ mf (fX10_copyOf r a s) r x k := by
  have h := zmap (F := fX10_copyOf_2 r a) (s0 := s) 2 (16 * r) 16 (fun i => gr s a i) (fun i σ hi h => by
    show zW σ 2 (16 * r + i) (σ.1 2 (16 * a + i)) = _
    rw [h 2 (16 * a + i) (by omega)]
    rfl)
  obtain ⟨g1, g2⟩ := h
  have e : ∀ i, i < 16 → gr (fX10_copyOf r a s) r i = gr s a i := fun i hi => g2 i hi
  refine ⟨fun id j q => g1 id j (by omega), ?_, fun i hi => ?_⟩
  · rw [rv_congr e]
    exact fa.1
  · rw [e i hi]
    exact fa.2 i hi
