/-! the class's field numbers: rows of ten limbs of 26 bits -/
def zrb (r : Nat → Int64) (B : Int) : Prop := ∀ i, i < 10 → -B ≤ (r i).toInt ∧ (r i).toInt ≤ B
theorem zrb_mono {r : Nat → Int64} {A B : Int} (h : zrb r A) (hAB : A ≤ B) : zrb r B := fun i hi => by
  have := h i hi
  omega
abbrev v10 (r : Nat → Int64) : Int := rv 26 r 10
/-- what a loop's run leaves alone: all rows but those of W -/
def zfr (W : List Nat) (s t : zSt) : Prop := ∀ id, id ∉ W → t.1 id = s.1 id
theorem zfr.trans {W1 W2 W : List Nat} {s t u : zSt} (h1 : zfr W1 s t) (h2 : zfr W2 t u) (e1 : ∀ x ∈ W1, x ∈ W) (e2 : ∀ x ∈ W2, x ∈ W) : zfr W s u := fun id hid => (h2 id (fun z => hid (e2 _ z))).trans (h1 id (fun z => hid (e1 _ z)))
theorem zfr.sub {W1 W : List Nat} {s t : zSt} (h1 : zfr W1 s t) (e1 : ∀ x ∈ W1, x ∈ W) : zfr W s t := fun id hid => h1 id (fun z => hid (e1 _ z))
theorem zfr.refl {W : List Nat} {s : zSt} : zfr W s s := fun _ _ => rfl
theorem zfr1 {out : Nat} {s t : zSt} (h : ∀ id, id ≠ out → t.1 id = s.1 id) : zfr [out] s t := fun id hid => h id (fun e => hid (by rw [e]; exact List.mem_singleton.mpr rfl))
theorem fillL (a k : Nat) (v : Int64) (s : zSt) : (∀ id j, (id ≠ a ∨ k ≤ j) → (fJ7_fill_d0a16 a k v s).1 id j = s.1 id j) ∧ ∀ i, i < k → (fJ7_fill_d0a16 a k v s).1 a i = v :=
  zmap0 (F := fJ7_fill_d0a16_6 a v) (s0 := s) a k (fun _ => v) (fun _ _ _ _ => rfl)
theorem vX_add (a b out : Nat) (s : zSt) {A B : Int} (hA : zrb (s.1 a) A) (hB : zrb (s.1 b) B) (hAB : A + B < 9223372036854775808) :
    zfr [out] s (fX1_add a b out s) ∧ zrb ((fX1_add a b out s).1 out) (A + B) ∧ v10 ((fX1_add a b out s).1 out) = v10 (s.1 a) + v10 (s.1 b) := by
  have h := zmap0 (F := fX1_add_3 a b out) (s0 := s) out 10 (fun i => s.1 a i + s.1 b i) (fun i σ hi h => by
    show zW σ out i (σ.1 a i + σ.1 b i) = _
    rw [h a i (by omega), h b i (by omega)])
  have h2 : ∀ i, i < 10 → ((fX1_add a b out s).1 out i).toInt = (s.1 a i).toInt + (s.1 b i).toInt := fun i hi => by
    have h3 := hA i hi
    have h4 := hB i hi
    have e : (fX1_add a b out s).1 out i = s.1 a i + s.1 b i := h.2 i hi
    rw [e, mq_addL (by omega) (by omega)]
  refine ⟨zfr1 (fun id hid => zmapR h.1 hid), fun i hi => ?_, ?_⟩
  · have h3 := hA i hi
    have h4 := hB i hi
    rw [h2 i hi]
    omega
  · have e : ∀ n, n ≤ 10 → rv 26 ((fX1_add a b out s).1 out) n = rv 26 (s.1 a) n + rv 26 (s.1 b) n := fun n => by
      induction n with
      | zero => intro _; rfl
      | succ n ih =>
        intro hn
        rw [rv_succ, rv_succ, rv_succ, ih (by omega), h2 n (by omega), Int.add_mul]
        omega
    exact e 10 (Nat.le_refl _)
theorem vX_sub (a b out : Nat) (s : zSt) {A B : Int} (hA : zrb (s.1 a) A) (hB : zrb (s.1 b) B) (hAB : A + B < 9223372036854775808) :
    zfr [out] s (fX1_subtract a b out s) ∧ zrb ((fX1_subtract a b out s).1 out) (A + B) ∧ v10 ((fX1_subtract a b out s).1 out) = v10 (s.1 a) - v10 (s.1 b) := by
  have h := zmap0 (F := fX1_subtract_3 a b out) (s0 := s) out 10 (fun i => s.1 a i - s.1 b i) (fun i σ hi h => by
    show zW σ out i (σ.1 a i - σ.1 b i) = _
    rw [h a i (by omega), h b i (by omega)])
  have h2 : ∀ i, i < 10 → ((fX1_subtract a b out s).1 out i).toInt = (s.1 a i).toInt - (s.1 b i).toInt := fun i hi => by
    have h3 := hA i hi
    have h4 := hB i hi
    have e : (fX1_subtract a b out s).1 out i = s.1 a i - s.1 b i := h.2 i hi
    rw [e, mq_subL (by omega) (by omega)]
  refine ⟨zfr1 (fun id hid => zmapR h.1 hid), fun i hi => ?_, ?_⟩
  · have h3 := hA i hi
    have h4 := hB i hi
    rw [h2 i hi]
    omega
  · have e : ∀ n, n ≤ 10 → rv 26 ((fX1_subtract a b out s).1 out) n = rv 26 (s.1 a) n - rv 26 (s.1 b) n := fun n => by
      induction n with
      | zero => intro _; rfl
      | succ n ih =>
        intro hn
        rw [rv_succ, rv_succ, rv_succ, ih (by omega), h2 n (by omega), Int.sub_mul]
        omega
    exact e 10 (Nat.le_refl _)
theorem vX_move (a out : Nat) (s : zSt) : zfr [out] s (fX1_move a out s) ∧ (∀ i, i < 10 → (fX1_move a out s).1 out i = s.1 a i) ∧ v10 ((fX1_move a out s).1 out) = v10 (s.1 a) := by
  have e : ∀ i, i < 10 → (fX1_move a out s).1 out i = s.1 a i := fun i hi => by
    show (zL s out (va_cpy (s.1 a) (s.1 out) 0 0 10)).1 out i = _
    rw [zL_s, pk_cpy_in (Nat.zero_le _) (by omega), show 0 + (i - 0) = i by omega]
  exact ⟨zfr1 (fun id hid => zL_n _ _ hid), e, rv_congr e⟩
/-- carrying along a row: the value stays, the limbs come into range -/
theorem vX_chain (a : Nat) (s : zSt) (n N : Nat) (hn : n < N) (B C : Nat → Int) (hB : ∀ i, i ≤ n → -(B i) ≤ (s.1 a i).toInt ∧ (s.1 a i).toInt ≤ B i) (hC : ∀ i, i < n → B i + C i ≤ 67108864 * (C (i + 1) - 1)) (hC0 : 0 ≤ C 0) (hBC : ∀ i, i ≤ n → B i + C i < 9223372036854775808) :
    zfr [a] s (ziter (fX1_carry_2 a) 0 n s) ∧ rv 26 ((ziter (fX1_carry_2 a) 0 n s).1 a) N = rv 26 (s.1 a) N ∧ (∀ j, j < n → 0 ≤ ((ziter (fX1_carry_2 a) 0 n s).1 a j).toInt ∧ ((ziter (fX1_carry_2 a) 0 n s).1 a j).toInt < 67108864)
      ∧ (∀ j, n < j → (ziter (fX1_carry_2 a) 0 n s).1 a j = s.1 a j) ∧ -(C n) ≤ ((ziter (fX1_carry_2 a) 0 n s).1 a n).toInt - (s.1 a n).toInt ∧ ((ziter (fX1_carry_2 a) 0 n s).1 a n).toInt - (s.1 a n).toInt ≤ C n := by
  refine ziter_I (fX1_carry_2 a) (fun i σ => zfr [a] s σ ∧ rv 26 (σ.1 a) N = rv 26 (s.1 a) N ∧ (∀ j, j < i → 0 ≤ (σ.1 a j).toInt ∧ (σ.1 a j).toInt < 67108864) ∧ (∀ j, i < j → σ.1 a j = s.1 a j) ∧ -(C i) ≤ (σ.1 a i).toInt - (s.1 a i).toInt ∧ (σ.1 a i).toInt - (s.1 a i).toInt ≤ C i) n ?_ n 0 s (by omega)
    ⟨zfr.refl, rfl, fun j hj => absurd hj (Nat.not_lt_zero j), fun _ _ => rfl, by omega, by omega⟩
  intro i σ hi ⟨h1, h2, h3, h4, h5, h6⟩
  have hBi := hB i (by omega)
  have hBi1 := hB (i + 1) (by omega)
  have hCi := hC i hi
  have hO := hBC (i + 1) (by omega)
  have e4 := h4 (i + 1) (by omega)
  have eF : (fX1_carry_2 a i σ).1 a = vp_updL (vp_updL (σ.1 a) (i + 1) (σ.1 a (i + 1) + zsr (σ.1 a i) 26)) i (σ.1 a i &&& 67108863) := by
    show (zW (zW σ a (i + 1) (σ.1 a (i + 1) + zsr (σ.1 a i) 26)) a i (((zW σ a (i + 1) (σ.1 a (i + 1) + zsr (σ.1 a i) 26)).1 a i) &&& 67108863)).1 a = _
    rw [zW_at, zW_at, pk_uLn (show i ≠ i + 1 by omega)]
  have hr := mq_r26 (σ.1 a i)
  have hm := mq_m26 (σ.1 a i)
  have hs : (σ.1 a (i + 1) + zsr (σ.1 a i) 26).toInt = (σ.1 a (i + 1)).toInt + (zsr (σ.1 a i) 26).toInt := by
    rw [e4]
    exact mq_addL (by omega) (by omega)
  refine ⟨fun id hid => ?_, ?_, ?_, ?_, ?_⟩
  · have hne : id ≠ a := fun e => hid (by rw [e]; exact List.mem_singleton.mpr rfl)
    show (zW (zW σ a (i + 1) (σ.1 a (i + 1) + zsr (σ.1 a i) 26)) a i _).1 id = _
    rw [zW_ne _ _ _ hne, zW_ne _ _ _ hne]
    exact h1 id hid
  · rw [eF, rv_upd (show i < N by omega), rv_upd (show i + 1 < N by omega), pk_uLn (show i ≠ i + 1 by omega), hs, hm, h2]
    have e2 : (2 : Int) ^ (26 * (i + 1)) = 67108864 * 2 ^ (26 * i) := zpw 26 i
    rw [e2, hr]
    have e3 : (σ.1 a i).toInt % 67108864 - (σ.1 a i).toInt = -(67108864 * ((σ.1 a i).toInt / 67108864)) := by omega
    have e5 : (σ.1 a (i + 1)).toInt + (σ.1 a i).toInt / 67108864 - (σ.1 a (i + 1)).toInt = (σ.1 a i).toInt / 67108864 := by omega
    rw [e3, e5]
    grind
  · intro j hj
    rw [eF]
    by_cases e : j = i
    · rw [e, pk_uLs, hm]
      omega
    · rw [pk_uLn e, pk_uLn (by omega)]
      exact h3 j (by omega)
  · intro j hj
    rw [eF, pk_uLn (by omega), pk_uLn (by omega)]
    exact h4 j (by omega)
  · rw [eF, pk_uLn (show i + 1 ≠ i by omega), pk_uLs, hs, e4]
    omega
/-- what carrying makes of a row that stands for T -/
def zcr (r : Nat → Int64) (T : Int) : Prop := (r 0).toInt = T % 67108864 + 19 * (T / 2 ^ 255) ∧ (∀ j, 1 ≤ j → j < 9 → 0 ≤ (r j).toInt ∧ (r j).toInt < 67108864) ∧ 0 ≤ (r 9).toInt ∧ (r 9).toInt < 2097152 ∧ v10 r = T % 2 ^ 255 + 19 * (T / 2 ^ 255)
theorem zlow (w : Nat) (f : Nat → Int) : ∀ n, ∃ k, zvl w f (n + 1) = f 0 + 2 ^ w * k
  | 0 => ⟨0, by show 0 + f 0 * 2 ^ (w * 0) = _; rw [Nat.mul_zero, Int.pow_zero]; omega⟩
  | n + 1 => by
    obtain ⟨k, hk⟩ := zlow w f n
    refine ⟨k + f (n + 1) * 2 ^ (w * n), ?_⟩
    show zvl w f (n + 1) + f (n + 1) * 2 ^ (w * (n + 1)) = _
    rw [hk, zpw]
    grind
theorem mq_19 (x : Int64) (h1 : -485440633518672410 ≤ x.toInt) (h2 : x.toInt ≤ 485440633518672410) : (19 * x).toInt = 19 * x.toInt := by
  have e : (19 : Int64).toInt = 19 := by decide
  rw [mq_mulL (by rw [e]; omega) (by rw [e]; omega), e]
theorem mq_608 (x : Int64) (h1 : -15170019797458510 ≤ x.toInt) (h2 : x.toInt ≤ 15170019797458510) : (608 * x).toInt = 608 * x.toInt := by
  have e : (608 : Int64).toInt = 608 := by decide
  rw [mq_mulL (by rw [e]; omega) (by rw [e]; omega), e]
theorem vX_carry (a : Nat) (s : zSt) (B B9 C D : Int) (hB : ∀ i, i < 9 → -B ≤ (s.1 a i).toInt ∧ (s.1 a i).toInt ≤ B) (hB9 : -B9 ≤ (s.1 a 9).toInt ∧ (s.1 a 9).toInt ≤ B9) (hC : B + C ≤ 67108864 * (C - 1)) (hC0 : 0 ≤ C) (hBC : B + C < 9223372036854775808) (hBC9 : B9 + C < 9223372036854775808) (hD : B9 + C ≤ 2097152 * D) (hD0 : D ≤ 485440633518672000) :
    zfr [a] s (fX1_carry a s) ∧ zcr ((fX1_carry a s).1 a) (v10 (s.1 a)) ∧ -D ≤ v10 (s.1 a) / 2 ^ 255 ∧ v10 (s.1 a) / 2 ^ 255 ≤ D := by
  have h := vX_chain a s 9 10 (by omega) (fun i => if i < 9 then B else B9) (fun _ => C) (fun i hi => by
      by_cases q : i < 9
      · rw [if_pos q]
        exact hB i q
      · rw [if_neg q, show i = 9 by omega]
        exact hB9) (fun i hi => by rw [if_pos hi]; exact hC) hC0 (fun i hi => by
      by_cases q : i < 9
      · rw [if_pos q]
        exact hBC
      · rw [if_neg q]
        exact hBC9)
  obtain ⟨h1, h2, h3, h4, h5, h6⟩ := h
  have eT : ∀ u, u = ziter (fX1_carry_2 a) 0 9 s → (fX1_carry a s).1 a = vp_updL (vp_updL (u.1 a) 9 (u.1 a 9 &&& 2097151)) 0 (u.1 a 0 + 19 * zsr (u.1 a 9) 21) ∧ ∀ id, id ≠ a → (fX1_carry a s).1 id = u.1 id := by
    intro u e
    have e2 : fX1_carry a s = zW (zW u a 9 (u.1 a 9 &&& 2097151)) a 0 ((zW u a 9 (u.1 a 9 &&& 2097151)).1 a 0 + 19 * zsr (u.1 a 9) 21) := by rw [e]; rfl
    rw [e2]
    refine ⟨?_, fun id hid => ?_⟩
    · rw [zW_at, zW_at, pk_uLn (show (0 : Nat) ≠ 9 by omega)]
    · rw [zW_ne _ _ _ hid, zW_ne _ _ _ hid]
  generalize hu : ziter (fX1_carry_2 a) 0 9 s = u at h1 h2 h3 h4 h5 h6
  obtain ⟨e1, e2⟩ := eT u hu.symm
  generalize hT : v10 (s.1 a) = T at *
  have hT2 : T = rv 26 (u.1 a) 9 + (u.1 a 9).toInt * 2 ^ (26 * 9) := by
    rw [← hT, ← rv_succ]
    exact h2.symm
  have hL := rv_range (w := 26) (n := 9) (r := u.1 a) (fun i hi => by
    have := h3 i hi
    omega)
  have hr := mq_r21 (u.1 a 9)
  have hm := mq_m21 (u.1 a 9)
  have h00 := h3 0 (by omega)
  have hq : T / 2 ^ 255 = (u.1 a 9).toInt / 2097152 := by omega
  have h19 := mq_19 (zsr (u.1 a 9) 21) (by omega) (by omega)
  have hs : (u.1 a 0 + 19 * zsr (u.1 a 9) 21).toInt = (u.1 a 0).toInt + 19 * ((u.1 a 9).toInt / 2097152) := by
    rw [mq_addL (by omega) (by omega), h19, hr]
  have hlow : T % 67108864 = (u.1 a 0).toInt := by
    obtain ⟨k, hk⟩ := zlow 26 (fun i => (u.1 a i).toInt) 9
    have hk2 : T = (u.1 a 0).toInt + 2 ^ 26 * k := by
      rw [← hk, ← hT]
      exact h2.symm
    omega
  refine ⟨fun id hid => ?_, ⟨?_, ?_, ?_, ?_, ?_⟩, by omega, by omega⟩
  · have hne : id ≠ a := fun e => hid (by rw [e]; exact List.mem_singleton.mpr rfl)
    rw [e2 id hne]
    exact h1 id hid
  · rw [e1, pk_uLs, hs, hlow, hq]
  · intro j j1 j2
    rw [e1, pk_uLn (by omega), pk_uLn (by omega)]
    exact h3 j j2
  · rw [e1, pk_uLn (by omega), pk_uLs, hm]
    omega
  · rw [e1, pk_uLn (by omega), pk_uLs, hm]
    omega
  · have e9 : v10 (vp_updL (vp_updL (u.1 a) 9 (u.1 a 9 &&& 2097151)) 0 (u.1 a 0 + 19 * zsr (u.1 a 9) 21)) = v10 (u.1 a) + ((u.1 a 9 &&& 2097151).toInt - (u.1 a 9).toInt) * 2 ^ (26 * 9) + ((u.1 a 0 + 19 * zsr (u.1 a 9) 21).toInt - (u.1 a 0).toInt) * 2 ^ (26 * 0) := by
      show rv 26 _ 10 = rv 26 _ 10 + _ + _
      rw [rv_upd (show 0 < 10 by omega), rv_upd (show 9 < 10 by omega), pk_uLn (show (0 : Nat) ≠ 9 by omega)]
    have h2' : v10 (u.1 a) = T := h2.trans hT
    rw [e1, e9, h2', hm, hs, hq]
    omega
