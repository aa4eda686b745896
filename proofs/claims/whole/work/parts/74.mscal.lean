/-! the reference's scalars, modulo L -/
theorem limb_v {s : zSt} (p i : Nat) (hi : i < 16) : (vX10_limb (s.1 4 (p + i / 4)) (i % 4) s).toInt = ((w4 s p / 2 ^ (16 * i) % 2 ^ 16 : Nat) : Int) := by
  unfold vX10_limb
  have hm : (65535 : Int64).toBitVec.toNat = 2 ^ 16 - 1 := by decide
  have e2 := tN_and (zus (s.1 4 (p + i / 4)) (16 * (i % 4))) 65535 hm
  have e3 := rN_bits (fun j => s.1 4 (p + j)) (n := 4) (pos := 16 * i) (q := 16) (by omega) (by omega)
  rw [show 16 * i / 64 = i / 4 by omega, show 16 * i % 64 = 16 * (i % 4) by omega] at e3
  have e4 : tN (s.1 4 (p + i / 4)) / 2 ^ (16 * (i % 4)) % 2 ^ 16 = w4 s p / 2 ^ (16 * i) % 2 ^ 16 := e3
  rw [mq_zus _ (show 16 * (i % 4) < 64 by omega), e4] at e2
  have h2 : w4 s p / 2 ^ (16 * i) % 2 ^ 16 < 2 ^ 16 := Nat.mod_lt _ (by decide)
  rw [tN_int, e2, if_pos (by omega)]
def lbv (N i : Nat) : Int := ((N / 2 ^ (16 * i) % 2 ^ 16 : Nat) : Int)
theorem lbv_r (N i : Nat) : 0 ≤ lbv N i ∧ lbv N i < 65536 := by
  unfold lbv
  have : N / 2 ^ (16 * i) % 2 ^ 16 < 2 ^ 16 := Nat.mod_lt _ (by decide)
  omega
theorem lbv_s (N : Nat) (n : Nat) : zvl 16 (lbv N) n = ((N % 2 ^ (16 * n) : Nat) : Int) := limbs_sum 16 (lbv N) N n (fun _ _ => rfl)
theorem lbv_16 {N : Nat} (h : N < 2 ^ 256) : zvl 16 (lbv N) 16 = (N : Int) := by
  rw [lbv_s, Nat.mod_eq_of_lt (show N < 2 ^ (16 * 16) from h)]
theorem zvl_s (w : Nat) (f : Nat → Int) (n : Nat) : zvl w f (n + 1) = zvl w f n + f n * 2 ^ (w * n) := rfl
theorem zvl_0 (w : Nat) (f : Nat → Int) : zvl w f 0 = 0 := rfl
/-- limbs in range are the digits -/
theorem zvl_digit {w : Nat} {f : Nat → Int} (i : Nat) : ∀ n, (∀ k, k < n → 0 ≤ f k ∧ f k < 2 ^ w) → i < n → zvl w f n / 2 ^ (w * i) % 2 ^ w = f i
  | 0, _, h => absurd h (Nat.not_lt_zero i)
  | n + 1, hr, h => by
    have hp : (0 : Int) < 2 ^ (w * i) := zpw0 _
    have hn := hr n (by omega)
    rw [zvl_s]
    by_cases e : i = n
    · subst e
      have h2 := zvl_range (w := w) (f := f) (n := i) (fun k hk => hr k (by omega))
      rw [Int.add_mul_ediv_right _ _ (by omega), Int.ediv_eq_zero_of_lt h2.1 h2.2, Int.zero_add, Int.emod_eq_of_lt hn.1 hn.2]
    · have ih := zvl_digit i n (fun k hk => hr k (by omega)) (by omega)
      have e2 : f n * 2 ^ (w * n) = (f n * 2 ^ (w * (n - i - 1)) * 2 ^ w) * 2 ^ (w * i) := by
        have e3 : w * n = w * (n - i - 1) + w + w * i := by
          have : n = (n - i - 1) + 1 + i := by omega
          calc w * n = w * ((n - i - 1) + 1 + i) := by rw [← this]
            _ = _ := by rw [Nat.mul_add, Nat.mul_add, Nat.mul_one]
        rw [e3, Int.pow_add, Int.pow_add, ← Int.mul_assoc, ← Int.mul_assoc]
      rw [e2, Int.add_mul_ediv_right _ _ (by omega), Int.add_mul_emod_self_right]
      exact ih
/-- the rest: 17 limbs in range -/
def rcan (s : zSt) : Prop := ∀ i, i < 17 → 0 ≤ (s.1 16 i).toInt ∧ (s.1 16 i).toInt < 65536
def rst (s : zSt) : Int := rv 16 (s.1 16) 17
theorem rcan_r {s : zSt} (h : rcan s) : 0 ≤ rst s ∧ rst s < 2 ^ 272 := rv_range (w := 16) (n := 17) (r := s.1 16) (fun i hi => by have := h i hi; omega)
theorem rcan_d {s : zSt} (h : rcan s) {i : Nat} (hi : i < 17) : rst s / 2 ^ (16 * i) % 65536 = (s.1 16 i).toInt := zvl_digit (w := 16) (f := fun i => (s.1 16 i).toInt) i 17 (fun k hk => by have := h k hk; omega) hi
theorem lo_cmp {s : zSt} {L : Nat} (h : rcan s) (hL : w4 s 32 = L) (hL2 : L < 2 ^ 256) : nI ((zdown (fX10_lessOrder_23 s) 16 (1, if lg_cmp (s.1 16 16) 0 = 0 then 0 else 1)).1) = 0 ↔ rst s < (L : Int) := by
  have z0 : (0 : Int64).toInt = 0 := by decide
  have n1 : ¬ nI 1 = 0 := by decide
  have n0 : nI 0 = 0 := rfl
  have H := zdown_I (fX10_lessOrder_23 s) (fun j (z : Nat × Nat) => j ≤ 16 ∧ ((z.2 = 0 ∧ z.1 = 1 ∧ rst s / 2 ^ (16 * j) = (L : Int) / 2 ^ (16 * j)) ∨ (z.2 = 1 ∧ z.1 = 1 ∧ (L : Int) / 2 ^ (16 * j) < rst s / 2 ^ (16 * j)) ∨ (z.2 = 1 ∧ z.1 = 0 ∧ rst s / 2 ^ (16 * j) < (L : Int) / 2 ^ (16 * j)))) ?_ 16 (1, if lg_cmp (s.1 16 16) 0 = 0 then 0 else 1) ?_
  · generalize zdown (fX10_lessOrder_23 s) 16 (1, if lg_cmp (s.1 16 16) 0 = 0 then 0 else 1) = z at H
    obtain ⟨-, H⟩ := H
    rw [Nat.mul_zero, Int.pow_zero, Int.ediv_one, Int.ediv_one] at H
    rcases H with ⟨_, h2, h3⟩ | ⟨_, h2, h3⟩ | ⟨_, h2, h3⟩
    · rw [h2]
      exact ⟨fun q => absurd q n1, fun q => absurd q (by omega)⟩
    · rw [h2]
      exact ⟨fun q => absurd q n1, fun q => absurd q (by omega)⟩
    · rw [h2]
      exact ⟨fun _ => h3, fun _ => n0⟩
  · intro j z ⟨q0, q⟩
    refine ⟨by omega, ?_⟩
    have hd := rcan_d h (i := j) (by omega)
    have hl : (vX10_limb (s.1 4 (32 + j / 4)) (j % 4) s).toInt = (L : Int) / 2 ^ (16 * j) % 65536 := by
      rw [limb_v 32 j (by omega), hL, Int.natCast_emod, Int.natCast_ediv, Int.natCast_pow]
      rfl
    have e1 : ∀ X : Int, X / 2 ^ (16 * (j + 1)) = X / 2 ^ (16 * j) / 65536 := fun X => by
      rw [zpw, Int.mul_comm, ← Int.ediv_ediv_of_nonneg (Int.le_of_lt (zpw0 _))]
      rfl
    rw [e1, e1] at q
    generalize rst s / 2 ^ (16 * j) = X at *
    generalize (L : Int) / 2 ^ (16 * j) = Y at *
    rcases q with ⟨h1, h2, h3⟩ | ⟨h1, h2, h3⟩ | ⟨h1, h2, h3⟩
    · have eG : fX10_lessOrder_23 s j z = (if lg_cmp (s.1 16 j) (vX10_limb (s.1 4 (32 + j / 4)) (j % 4) s) < 0 then 0 else 1, if lg_cmp (s.1 16 j) (vX10_limb (s.1 4 (32 + j / 4)) (j % 4) s) = 0 then 0 else 1) := by
        unfold fX10_lessOrder_23
        rw [h1, if_neg (fun w => w n0)]
        rfl
      rw [eG]
      rcases Int.lt_trichotomy (s.1 16 j).toInt (vX10_limb (s.1 4 (32 + j / 4)) (j % 4) s).toInt with c | c | c
      · rw [if_pos ((lg_cmp_lt _ _).mpr (Int64.lt_iff_toInt_lt.mpr c)), if_neg (fun w => by rw [(lg_cmp_eq _ _).mp w] at c; omega)]
        exact Or.inr (Or.inr ⟨rfl, rfl, by omega⟩)
      · rw [if_neg (fun w => by have := Int64.lt_iff_toInt_lt.mp ((lg_cmp_lt _ _).mp w); omega), if_pos ((lg_cmp_eq _ _).mpr (Int64.toInt_inj.mp c))]
        exact Or.inl ⟨rfl, rfl, by omega⟩
      · rw [if_neg (fun w => by have := Int64.lt_iff_toInt_lt.mp ((lg_cmp_lt _ _).mp w); omega), if_neg (fun w => by rw [(lg_cmp_eq _ _).mp w] at c; omega)]
        exact Or.inr (Or.inl ⟨rfl, rfl, by omega⟩)
    · have eG : fX10_lessOrder_23 s j z = z := by
        unfold fX10_lessOrder_23
        rw [h1, if_pos n1]
      rw [eG]
      exact Or.inr (Or.inl ⟨h1, h2, by omega⟩)
    · have eG : fX10_lessOrder_23 s j z = z := by
        unfold fX10_lessOrder_23
        rw [h1, if_pos n1]
      rw [eG]
      exact Or.inr (Or.inr ⟨h1, h2, by omega⟩)
  · refine ⟨Nat.le_refl _, ?_⟩
    have hd := rcan_d h (i := 16) (by omega)
    have hr := rcan_r h
    have hY : (L : Int) / 2 ^ (16 * 16) = 0 := by omega
    have hX : rst s / 2 ^ (16 * 16) = (s.1 16 16).toInt := by omega
    have hc := h 16 (by omega)
    rw [hX, hY]
    by_cases q : lg_cmp (s.1 16 16) 0 = 0
    · rw [if_pos q]
      rw [(lg_cmp_eq _ _).mp q, z0]
      exact Or.inl ⟨rfl, rfl, rfl⟩
    · rw [if_neg q]
      refine Or.inr (Or.inl ⟨rfl, rfl, ?_⟩)
      have : (s.1 16 16).toInt ≠ 0 := fun w => q ((lg_cmp_eq _ _).mpr (Int64.toInt_inj.mp (by rw [w, z0])))
      omega
theorem lo_key (A m q P b S T g p : Int) (h1 : A + b * P = S - T) (h2 : m + q * 65536 = g - p + b) : A + m * P + q * (65536 * P) = S + g * P - (T + p * P) := by
  have : m = g - p + b - q * 65536 := by omega
  rw [this]
  have : S = A + b * P + T := by omega
  rw [this]
  grind
theorem lo_step (i : Nat) (z : zSt × Int64) (lv : Int64) (hl : lv = if 16 ≤ i then 0 else vX10_limb (z.1.1 4 (32 + i / 4)) (i % 4) z.1) : fX10_lessOrder_101 i z = (zW (zW z.1 16 i (z.1.1 16 i + (z.2 - lv))) 16 i ((z.1.1 16 i + (z.2 - lv)) &&& 65535), zsr (z.1.1 16 i + (z.2 - lv)) 16) := by
  unfold fX10_lessOrder_101 fX10_lessOrder_a2 fX10_lessOrder_a3
  by_cases q : 16 ≤ i
  · rw [if_pos q] at hl ⊢
    subst hl
    dsimp only
    rw [zW_at, pk_uLs]
  · rw [if_neg q] at hl ⊢
    rw [← hl]
    dsimp only
    rw [zW_at, pk_uLs]
theorem cM_lessL {s : zSt} {L : Nat} (h : rcan s) (hL : w4 s 32 = L) (hL2 : L < 2 ^ 256) : (∀ id, id ≠ 16 → (fX10_lessOrder s).1 id = s.1 id) ∧ rcan (fX10_lessOrder s) ∧ rst (fX10_lessOrder s) = if rst s < (L : Int) then rst s else rst s - L := by
  have z0 : (0 : Int64).toInt = 0 := by decide
  have hc := lo_cmp h hL hL2
  have eF : ∀ u, u = zdown (fX10_lessOrder_23 s) 16 (1, if lg_cmp (s.1 16 16) 0 = 0 then 0 else 1) → fX10_lessOrder s = if nI u.1 = 0 then s else (ziter fX10_lessOrder_101 0 17 (s, 0)).1 := fun u e => by
    unfold fX10_lessOrder fX10_lessOrder_a1 fX10_lessOrder_a4
    dsimp only
    rw [← e]
  rw [eF _ rfl]
  by_cases q : rst s < (L : Int)
  · rw [if_pos (hc.mpr q), if_pos q]
    exact ⟨fun _ _ => rfl, h, rfl⟩
  · rw [if_neg (fun w => q (hc.mp w)), if_neg q]
    have H := ziter_I fX10_lessOrder_101 (fun i (z : zSt × Int64) => (∀ id j, (id ≠ 16 ∨ i ≤ j) → z.1.1 id j = s.1 id j) ∧ (∀ j, j < i → 0 ≤ (z.1.1 16 j).toInt ∧ (z.1.1 16 j).toInt < 65536) ∧ rv 16 (z.1.1 16) i + z.2.toInt * 2 ^ (16 * i) = rv 16 (s.1 16) i - zvl 16 (fun k => if k < 16 then lbv L k else 0) i ∧ -1 ≤ z.2.toInt ∧ z.2.toInt ≤ 0) 17 ?_ 17 0 (s, 0) (by omega)
      ⟨fun _ _ _ => rfl, fun j hj => absurd hj (Nat.not_lt_zero j), by show (0 : Int) + (0 : Int64).toInt * _ = 0 - 0; rw [z0]; omega, by show -1 ≤ (0 : Int64).toInt; rw [z0]; omega, by show (0 : Int64).toInt ≤ 0; rw [z0]; omega⟩
    · generalize ziter fX10_lessOrder_101 0 17 (s, 0) = z at H ⊢
      obtain ⟨h1, h2, h3, h4, h5⟩ := H
      have e17 : zvl 16 (fun k => if k < 16 then lbv L k else 0) 17 = (L : Int) := by
        rw [zvl_s, if_neg (by omega), zvl_congr (g := lbv L) (fun k hk => if_pos hk), lbv_16 hL2]
        omega
      rw [e17] at h3
      have hr := rv_range (w := 16) (n := 17) (r := z.1.1 16) (fun i hi => by have := h2 i hi; omega)
      have hr2 := rcan_r h
      have h3' : rst z.1 + z.2.toInt * 2 ^ (16 * 17) = rst s - (L : Int) := h3
      have hr' : 0 ≤ rst z.1 ∧ rst z.1 < 2 ^ (16 * 17) := hr
      refine ⟨fun id hid => funext fun j => h1 id j (Or.inl hid), h2, ?_⟩
      have : z.2.toInt = 0 := by omega
      rw [this] at h3'
      omega
    · intro i z hi ⟨h1, h2, h3, h4, h5⟩
      have hg := h i hi
      have e16 := h1 16 i (by omega)
      generalize hlv : (if 16 ≤ i then 0 else vX10_limb (z.1.1 4 (32 + i / 4)) (i % 4) z.1) = lv
      have hlI : lv.toInt = if i < 16 then lbv L i else 0 := by
        by_cases w : i < 16
        · rw [if_neg (by omega)] at hlv
          rw [if_pos w, ← hlv, limb_v 32 i w, w4_keep (t := z.1) (s := s) (fun j hj => h1 4 (32 + j) (by omega)), hL]
          rfl
        · rw [if_pos (by omega)] at hlv
          rw [if_neg w, ← hlv, z0]
      have hlr : 0 ≤ lv.toInt ∧ lv.toInt < 65536 := by
        rw [hlI]
        by_cases w : i < 16
        · rw [if_pos w]
          exact lbv_r L i
        · rw [if_neg w]
          omega
      rw [lo_step i z lv hlv.symm, e16]
      have hx1 : (z.2 - lv).toInt = z.2.toInt - lv.toInt := mq_subL (by omega) (by omega)
      have hx : (s.1 16 i + (z.2 - lv)).toInt = (s.1 16 i).toInt - lv.toInt + z.2.toInt := by
        rw [mq_addL (by omega) (by omega), hx1]
        omega
      have hm := mq_m16 (s.1 16 i + (z.2 - lv))
      have hr := mq_r16 (s.1 16 i + (z.2 - lv))
      generalize s.1 16 i + (z.2 - lv) = x at hx hm hr
      have eu : (zW (zW z.1 16 i x) 16 i (x &&& 65535)).1 16 = vp_updL (vp_updL (z.1.1 16) i x) i (x &&& 65535) := by rw [zW_at, zW_at]
      refine ⟨fun id j hj => ?_, fun j hj => ?_, ?_, ?_, ?_⟩
      · show (zW (zW z.1 16 i x) 16 i (x &&& 65535)).1 id j = _
        by_cases e : id = 16
        · subst e
          rw [eu, pk_uLn (by omega), pk_uLn (by omega)]
          exact h1 16 j (by omega)
        · rw [zW_ne _ _ _ e, zW_ne _ _ _ e]
          exact h1 id j (Or.inl e)
      · show 0 ≤ ((zW (zW z.1 16 i x) 16 i (x &&& 65535)).1 16 j).toInt ∧ ((zW (zW z.1 16 i x) 16 i (x &&& 65535)).1 16 j).toInt < 65536
        rw [eu]
        by_cases e : j = i
        · rw [e, pk_uLs, hm]
          omega
        · rw [pk_uLn e, pk_uLn e]
          exact h2 j (by omega)
      · show rv 16 ((zW (zW z.1 16 i x) 16 i (x &&& 65535)).1 16) (i + 1) + (zsr x 16).toInt * 2 ^ (16 * (i + 1)) = _
        rw [eu, rv_succ, rv_succ, zvl_s, pk_uLs, hm, hr, rv_congr (r' := z.1.1 16) (fun k hk => by rw [pk_uLn (by omega), pk_uLn (by omega)]), ← hlI]
        have e3 : (2 : Int) ^ (16 * (i + 1)) = 65536 * 2 ^ (16 * i) := zpw 16 i
        rw [e3]
        exact lo_key _ _ _ _ _ _ _ _ _ h3 (by omega)
      · show -1 ≤ (zsr x 16).toInt
        omega
      · show (zsr x 16).toInt ≤ 0
        omega
theorem cM_dbl {s : zSt} {b : Int64} (h : rcan s) (hb : 0 ≤ b.toInt ∧ b.toInt ≤ 1) (hs : rst s < 2 ^ 256) : (∀ id, id ≠ 16 → (ziter fX10_modulo_48 0 17 (s, b)).1.1 id = s.1 id) ∧ rcan (ziter fX10_modulo_48 0 17 (s, b)).1 ∧ rst (ziter fX10_modulo_48 0 17 (s, b)).1 = 2 * rst s + b.toInt := by
  have e2 : (2 : Int64).toInt = 2 := by decide
  have H := ziter_I fX10_modulo_48 (fun i (z : zSt × Int64) => (∀ id j, (id ≠ 16 ∨ i ≤ j) → z.1.1 id j = s.1 id j) ∧ (∀ j, j < i → 0 ≤ (z.1.1 16 j).toInt ∧ (z.1.1 16 j).toInt < 65536) ∧ rv 16 (z.1.1 16) i + z.2.toInt * 2 ^ (16 * i) = 2 * rv 16 (s.1 16) i + b.toInt ∧ 0 ≤ z.2.toInt ∧ z.2.toInt ≤ 1) 17 ?_ 17 0 (s, b) (by omega)
    ⟨fun _ _ _ => rfl, fun j hj => absurd hj (Nat.not_lt_zero j), by show (0 : Int) + b.toInt * 2 ^ (16 * 0) = 2 * 0 + b.toInt; omega, hb.1, hb.2⟩
  · generalize ziter fX10_modulo_48 0 17 (s, b) = z at H ⊢
    obtain ⟨h1, h2, h3, h4, h5⟩ := H
    have hr := rv_range (w := 16) (n := 17) (r := z.1.1 16) (fun i hi => by have := h2 i hi; omega)
    have h3' : rst z.1 + z.2.toInt * 2 ^ (16 * 17) = 2 * rst s + b.toInt := h3
    have hr' : 0 ≤ rst z.1 ∧ rst z.1 < 2 ^ (16 * 17) := hr
    have hr2 := rcan_r h
    refine ⟨fun id hid => funext fun j => h1 id j (Or.inl hid), h2, ?_⟩
    have : z.2.toInt = 0 := by omega
    rw [this] at h3'
    omega
  intro i z hi ⟨h1, h2, h3, h4, h5⟩
  have hg := h i hi
  have e16 := h1 16 i (by omega)
  have eG : fX10_modulo_48 i z = (zW (zW z.1 16 i (2 * s.1 16 i + z.2)) 16 i ((2 * s.1 16 i + z.2) &&& 65535), zsr (2 * s.1 16 i + z.2) 16) := by
    unfold fX10_modulo_48
    dsimp only
    rw [zW_at, pk_uLs, e16]
  have hx1 : (2 * s.1 16 i).toInt = 2 * (s.1 16 i).toInt := by rw [mq_mulL (by rw [e2]; omega) (by rw [e2]; omega), e2]
  have hx : (2 * s.1 16 i + z.2).toInt = 2 * (s.1 16 i).toInt + z.2.toInt := by rw [mq_addL (by omega) (by omega), hx1]
  rw [eG]
  have hm := mq_m16 (2 * s.1 16 i + z.2)
  have hr := mq_r16 (2 * s.1 16 i + z.2)
  generalize 2 * s.1 16 i + z.2 = x at hx hm hr
  have eu : (zW (zW z.1 16 i x) 16 i (x &&& 65535)).1 16 = vp_updL (vp_updL (z.1.1 16) i x) i (x &&& 65535) := by rw [zW_at, zW_at]
  refine ⟨fun id j hj => ?_, fun j hj => ?_, ?_, ?_, ?_⟩
  · show (zW (zW z.1 16 i x) 16 i (x &&& 65535)).1 id j = _
    by_cases e : id = 16
    · subst e
      rw [eu, pk_uLn (by omega), pk_uLn (by omega)]
      exact h1 16 j (by omega)
    · rw [zW_ne _ _ _ e, zW_ne _ _ _ e]
      exact h1 id j (Or.inl e)
  · show 0 ≤ ((zW (zW z.1 16 i x) 16 i (x &&& 65535)).1 16 j).toInt ∧ ((zW (zW z.1 16 i x) 16 i (x &&& 65535)).1 16 j).toInt < 65536
    rw [eu]
    by_cases e : j = i
    · rw [e, pk_uLs, hm]
      omega
    · rw [pk_uLn e, pk_uLn e]
      exact h2 j (by omega)
  · show rv 16 ((zW (zW z.1 16 i x) 16 i (x &&& 65535)).1 16) (i + 1) + (zsr x 16).toInt * 2 ^ (16 * (i + 1)) = _
    rw [eu, rv_succ, rv_succ, pk_uLs, hm, hr, rv_congr (r' := z.1.1 16) (fun k hk => by rw [pk_uLn (by omega), pk_uLn (by omega)])]
    have e3 : (2 : Int) ^ (16 * (i + 1)) = 65536 * 2 ^ (16 * i) := zpw 16 i
    rw [e3]
    have key : ∀ (A m q P b S g B : Int), A + b * P = 2 * S + B → m + q * 65536 = 2 * g + b → A + m * P + q * (65536 * P) = 2 * (S + g * P) + B := by
      intro A m q P b S g B h1 h2
      have : m = 2 * g + b - q * 65536 := by omega
      rw [this]
      have : A = 2 * S + B - b * P := by omega
      rw [this]
      grind
    exact key _ _ _ _ _ _ _ _ h3 (by omega)
  · show 0 ≤ (zsr x 16).toInt
    omega
  · show (zsr x 16).toInt ≤ 1
    omega
theorem mod_a {M : Int} (h : 0 ≤ M) {b : Int} (hb : M % 2 = b) : (if 2 * (M / 2 % 7237005577332262213973186563042994240857116359379907606001950938285454250989) + b < 7237005577332262213973186563042994240857116359379907606001950938285454250989 then 2 * (M / 2 % 7237005577332262213973186563042994240857116359379907606001950938285454250989) + b else 2 * (M / 2 % 7237005577332262213973186563042994240857116359379907606001950938285454250989) + b - 7237005577332262213973186563042994240857116359379907606001950938285454250989) = M % 7237005577332262213973186563042994240857116359379907606001950938285454250989 := by
  have h1 := Int.emod_nonneg (M / 2) (show (7237005577332262213973186563042994240857116359379907606001950938285454250989 : Int) ≠ 0 by decide)
  have h2 := Int.emod_lt_of_pos (M / 2) (show (0 : Int) < 7237005577332262213973186563042994240857116359379907606001950938285454250989 by decide)
  have h3 : M = 7237005577332262213973186563042994240857116359379907606001950938285454250989 * (2 * (M / 2 / 7237005577332262213973186563042994240857116359379907606001950938285454250989)) + (2 * (M / 2 % 7237005577332262213973186563042994240857116359379907606001950938285454250989) + b) := by
    have := Int.mul_ediv_add_emod (M / 2) 7237005577332262213973186563042994240857116359379907606001950938285454250989
    omega
  generalize M / 2 % 7237005577332262213973186563042994240857116359379907606001950938285454250989 = r at *
  generalize M / 2 / 7237005577332262213973186563042994240857116359379907606001950938285454250989 = q at *
  by_cases c : 2 * r + b < 7237005577332262213973186563042994240857116359379907606001950938285454250989
  · rw [if_pos c]
    have h4 : M = (2 * r + b) + 7237005577332262213973186563042994240857116359379907606001950938285454250989 * (2 * q) := by omega
    rw [h4, Int.add_mul_emod_self_left, Int.emod_eq_of_lt (by omega) c]
  · rw [if_neg c]
    have h4 : M = (2 * r + b - 7237005577332262213973186563042994240857116359379907606001950938285454250989) + 7237005577332262213973186563042994240857116359379907606001950938285454250989 * (2 * q + 1) := by omega
    rw [h4, Int.add_mul_emod_self_left, Int.emod_eq_of_lt (by omega) (by omega)]
theorem G_div {s : zSt} {G : Nat} (hg : ∀ i, i < 34 → 0 ≤ (s.1 15 i).toInt ∧ (s.1 15 i).toInt < 65536) (hG : rv 16 (s.1 15) 34 = (G : Int)) : G / 2 ^ 544 = 0 := by
  have h := (rv_range (w := 16) (n := 34) (r := s.1 15) (fun i hi => by have := hg i hi; omega)).2
  rw [hG] at h
  generalize hn : 16 * 34 = n at h
  have e : (2 : Int) ^ n = ((2 ^ n : Nat) : Int) := (Int.natCast_pow 2 n).symm
  rw [e] at h
  have h2 := Int.ofNat_lt.mp h
  rw [← hn] at h2
  exact Nat.div_eq_of_lt h2
theorem modL_lt (G : Int) : G % 7237005577332262213973186563042994240857116359379907606001950938285454250989 < 2 ^ 256 := Int.lt_trans (Int.emod_lt_of_pos G (by decide)) (by decide)
theorem rst_16 {u : zSt} (h : rcan u) (hlt : rst u < 2 ^ 256) : (u.1 16 16).toInt = 0 := by
  have hd := rcan_d h (i := 16) (by omega)
  have hr := (rcan_r h).1
  have e : rst u / 2 ^ (16 * 16) = 0 := Int.ediv_eq_zero_of_lt hr hlt
  rw [e] at hd
  exact hd.symm
theorem rst_pack {u : zSt} (h : rcan u) (h16 : (u.1 16 16).toInt = 0) : ((tN (((u.1 16 (4 * 0) ||| zsl (u.1 16 (4 * 0 + 1)) 16) ||| zsl (u.1 16 (4 * 0 + 2)) 32) ||| zsl (u.1 16 (4 * 0 + 3)) 48) + tN (((u.1 16 (4 * 1) ||| zsl (u.1 16 (4 * 1 + 1)) 16) ||| zsl (u.1 16 (4 * 1 + 2)) 32) ||| zsl (u.1 16 (4 * 1 + 3)) 48) * 18446744073709551616 + tN (((u.1 16 (4 * 2) ||| zsl (u.1 16 (4 * 2 + 1)) 16) ||| zsl (u.1 16 (4 * 2 + 2)) 32) ||| zsl (u.1 16 (4 * 2 + 3)) 48) * 340282366920938463463374607431768211456 + tN (((u.1 16 (4 * 3) ||| zsl (u.1 16 (4 * 3 + 1)) 16) ||| zsl (u.1 16 (4 * 3 + 2)) 32) ||| zsl (u.1 16 (4 * 3 + 3)) 48) * 6277101735386680763835789423207666416102355444464034512896 : Nat) : Int) = rst u := by
  have y0 := word16 (h (4 * 0) (by omega)) (h (4 * 0 + 1) (by omega)) (h (4 * 0 + 2) (by omega)) (h (4 * 0 + 3) (by omega))
  have y1 := word16 (h (4 * 1) (by omega)) (h (4 * 1 + 1) (by omega)) (h (4 * 1 + 2) (by omega)) (h (4 * 1 + 3) (by omega))
  have y2 := word16 (h (4 * 2) (by omega)) (h (4 * 2 + 1) (by omega)) (h (4 * 2 + 2) (by omega)) (h (4 * 2 + 3) (by omega))
  have y3 := word16 (h (4 * 3) (by omega)) (h (4 * 3 + 1) (by omega)) (h (4 * 3 + 2) (by omega)) (h (4 * 3 + 3) (by omega))
  have hR : rst u = rv 16 (u.1 16) 17 := rfl
  rw [rv_succ, rv_succ, rv_succ, rv_succ, rv_succ, rv_succ, rv_succ, rv_succ, rv_succ, rv_succ, rv_succ, rv_succ, rv_succ, rv_succ, rv_succ, rv_succ, rv_succ, rv_0, h16] at hR
  rw [hR]
  clear hR h h16
  dsimp only [Nat.reduceMul, Nat.reduceAdd] at y0 y1 y2 y3 ⊢
  generalize tN (((u.1 16 0 ||| zsl (u.1 16 1) 16) ||| zsl (u.1 16 2) 32) ||| zsl (u.1 16 3) 48) = a0 at y0 ⊢
  generalize tN (((u.1 16 4 ||| zsl (u.1 16 5) 16) ||| zsl (u.1 16 6) 32) ||| zsl (u.1 16 7) 48) = a1 at y1 ⊢
  generalize tN (((u.1 16 8 ||| zsl (u.1 16 9) 16) ||| zsl (u.1 16 10) 32) ||| zsl (u.1 16 11) 48) = a2 at y2 ⊢
  generalize tN (((u.1 16 12 ||| zsl (u.1 16 13) 16) ||| zsl (u.1 16 14) 32) ||| zsl (u.1 16 15) 48) = a3 at y3 ⊢
  omega
theorem dig2 (X : Int) : ∀ k, k < 16 → X % 65536 / ((2 ^ k : Nat) : Int) % 2 = X / 2 ^ k % 2 := by
  intro k hk
  have e1 : (65536 : Int) = 2 ^ k * 2 ^ (16 - k) := by
    rw [← Int.pow_add, show k + (16 - k) = 16 by omega]
    decide
  have e2 : (2 : Int) ∣ 2 ^ (16 - k) := by
    obtain ⟨m, hm⟩ : ∃ m, 16 - k = m + 1 := ⟨15 - k, by omega⟩
    rw [hm, Int.pow_succ]
    exact Int.dvd_mul_left _ _
  rw [Int.natCast_pow]
  show X % 65536 / (2 : Int) ^ k % 2 = _
  have hp := zpw0 k
  have h1 : X % 65536 = X - 65536 * (X / 65536) := by omega
  rw [h1, e1, Int.mul_assoc, Int.sub_eq_add_neg, ← Int.mul_neg, Int.add_mul_ediv_left _ _ (by omega)]
  obtain ⟨c, hc⟩ := e2
  rw [hc, Int.mul_assoc, ← Int.mul_neg, Int.add_mul_emod_self_left]
theorem cM_modulo {s : zSt} {p G : Nat} (hL : w4 s 32 = 7237005577332262213973186563042994240857116359379907606001950938285454250989) (hg : ∀ i, i < 34 → 0 ≤ (s.1 15 i).toInt ∧ (s.1 15 i).toInt < 65536) (hG : rv 16 (s.1 15) 34 = (G : Int)) : (∀ id j, id ≠ 16 → ¬ (id = 4 ∧ p ≤ j ∧ j < p + 4) → (fX10_modulo p s).1 id j = s.1 id j) ∧ w4 (fX10_modulo p s) p = G % 7237005577332262213973186563042994240857116359379907606001950938285454250989 := by
  have z0 : (0 : Int64).toInt = 0 := by decide
  have eF : fX10_modulo p s = ziter (fX10_modulo_117 p) 0 4 (zdown fX10_modulo_25 544 (ziter fX10_modulo_2 0 18 s)) := rfl
  rw [eF]
  have f := zmap0 (F := fX10_modulo_2) (s0 := s) 16 18 (fun _ => 0) (fun i σ _ _ => rfl)
  generalize ziter fX10_modulo_2 0 18 s = t at f ⊢
  obtain ⟨f1, f2⟩ := f
  have fr : ∀ id, id ≠ 16 → t.1 id = s.1 id := fun id h => funext fun j => f1 id j (Or.inl h)
  have ct : rcan t := fun i hi => by rw [f2 i (by omega), z0]; omega
  have rt : rst t = 0 := by
    show rv 16 (t.1 16) 17 = 0
    rw [rv_congr (r' := fun _ => 0) (fun i hi => f2 i (by omega))]
    decide
  have H := zdown_I fX10_modulo_25 (fun j σ => j ≤ 544 ∧ (∀ id, id ≠ 16 → σ.1 id = s.1 id) ∧ rcan σ ∧ rst σ = ((G / 2 ^ j : Nat) : Int) % 7237005577332262213973186563042994240857116359379907606001950938285454250989) ?_ 544 t ⟨Nat.le_refl _, fr, ct, by rw [rt, G_div hg hG]; rfl⟩
  · generalize zdown fX10_modulo_25 544 t = u at H ⊢
    obtain ⟨-, h1, h2, h3⟩ := H
    rw [Nat.pow_zero, Nat.div_one] at h3
    have hlt : rst u < 2 ^ 256 := by
      rw [h3]
      exact modL_lt _
    have h16 := rst_16 h2 hlt
    have g := zmap (F := fX10_modulo_117 p) (s0 := u) 4 p 4 (fun i => ((u.1 16 (4 * i) ||| zsl (u.1 16 (4 * i + 1)) 16) ||| zsl (u.1 16 (4 * i + 2)) 32) ||| zsl (u.1 16 (4 * i + 3)) 48) (fun i σ hi hh => by
      show zW σ 4 (p + i) (((σ.1 16 (4 * i) ||| zsl (σ.1 16 (4 * i + 1)) 16) ||| zsl (σ.1 16 (4 * i + 2)) 32) ||| zsl (σ.1 16 (4 * i + 3)) 48) = _
      rw [hh 16 (4 * i) (by omega), hh 16 (4 * i + 1) (by omega), hh 16 (4 * i + 2) (by omega), hh 16 (4 * i + 3) (by omega)])
    generalize ziter (fX10_modulo_117 p) 0 4 u = v at g ⊢
    obtain ⟨p1, p2⟩ := g
    refine ⟨fun id j n1 n2 => by rw [p1 id j (by omega), h1 id n1], ?_⟩
    have x0 := p2 0 (by omega)
    have x1 := p2 1 (by omega)
    have x2 := p2 2 (by omega)
    have x3 := p2 3 (by omega)
    have e9 : (w4 v p : Int) = rst u := by
      rw [← rst_pack h2 h16]
      unfold w4
      rw [rN_4, x0, x1, x2, x3]
    rw [h3] at e9
    exact Int.ofNat.inj (e9.trans (Int.natCast_emod _ _).symm)
  intro j σ ⟨q0, q1, q2, q3⟩
  have hgj := hg (j / 16) (by omega)
  have hd : (G : Int) / 2 ^ (16 * (j / 16)) % 65536 = (s.1 15 (j / 16)).toInt := by
    rw [← hG]
    exact zvl_digit (w := 16) (f := fun i => (s.1 15 i).toInt) (j / 16) 34 (fun k hk => by have := hg k hk; omega) (by omega)
  have hbit : (zsr (s.1 15 (j / 16)) (j % 16) &&& 1).toInt = ((G / 2 ^ j : Nat) : Int) % 2 := by
    rw [mq_m1, mq_zsr _ (by omega), ← hd, Int.natCast_ediv, Int.natCast_pow, Int.natCast_pow]
    have e1 : (2 : Int) ^ j = 2 ^ (16 * (j / 16)) * 2 ^ (j % 16) := by
      rw [← Int.pow_add]
      congr 1
      omega
    have e4 : (G : Int) / 2 ^ j = (G : Int) / 2 ^ (16 * (j / 16)) / 2 ^ (j % 16) := by
      rw [e1, Int.ediv_ediv_of_nonneg (Int.le_of_lt (zpw0 _))]
    show _ = (G : Int) / (2 : Int) ^ j % 2
    rw [e4]
    generalize (G : Int) / 2 ^ (16 * (j / 16)) = X
    have hk : j % 16 < 16 := by omega
    generalize j % 16 = k at hk
    exact dig2 X k hk
  have e3 : G / 2 ^ (j + 1) = G / 2 ^ j / 2 := by rw [Nat.div_div_eq_div_mul, Nat.pow_succ]
  have e5 : ((G / 2 ^ (j + 1) : Nat) : Int) = ((G / 2 ^ j : Nat) : Int) / 2 := by
    rw [e3, Int.natCast_ediv]
    rfl
  rw [e5] at q3
  have hnn := Int.emod_nonneg (((G / 2 ^ j : Nat) : Int) / 2) (show (7237005577332262213973186563042994240857116359379907606001950938285454250989 : Int) ≠ 0 by decide)
  have hlt := Int.emod_lt_of_pos (((G / 2 ^ j : Nat) : Int) / 2) (show (0 : Int) < 7237005577332262213973186563042994240857116359379907606001950938285454250989 by decide)
  obtain ⟨d1, d2, d3⟩ := cM_dbl (s := σ) (b := zsr (σ.1 15 (j / 16)) (j % 16) &&& 1) q2 (by rw [q1 15 (by omega), hbit]; omega) (by rw [q3]; omega)
  have eG : fX10_modulo_25 j σ = fX10_lessOrder (ziter fX10_modulo_48 0 17 (σ, zsr (σ.1 15 (j / 16)) (j % 16) &&& 1)).1 := rfl
  rw [eG]
  have hb2 : (zsr (σ.1 15 (j / 16)) (j % 16) &&& 1).toInt = ((G / 2 ^ j : Nat) : Int) % 2 := by rw [q1 15 (by omega)]; exact hbit
  rw [hb2] at d3
  generalize (ziter fX10_modulo_48 0 17 (σ, zsr (σ.1 15 (j / 16)) (j % 16) &&& 1)).1 = u at d1 d2 d3 ⊢
  obtain ⟨l1, l2, l3⟩ := cM_lessL (L := 7237005577332262213973186563042994240857116359379907606001950938285454250989) d2 (by rw [w4_keep (t := u) (s := s) (fun k hk => by rw [d1 4 (by omega), q1 4 (by omega)])]; exact hL) (by decide)
  refine ⟨by omega, fun id h => by rw [l1 id h, d1 id h, q1 id h], l2, ?_⟩
  rw [l3, d3, q3]
  exact mod_a (Int.natCast_nonneg _) rfl
