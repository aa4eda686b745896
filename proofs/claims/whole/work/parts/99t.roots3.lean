/-! the constants of SHA-512 that the reference's constructor makes are the class's -/
def prl : List Nat := [0, 1, 3, 5, 9, 11, 15, 17, 21, 27, 29, 35, 39, 41, 45, 51, 57, 59, 65, 69, 71, 77, 81, 87, 95, 99, 101, 105, 107, 111, 125, 129, 135, 137, 147, 149, 155, 161, 165, 171, 177, 179, 189, 191, 195, 197, 209, 221, 225, 227, 231, 237, 239, 249, 255, 261, 267, 269, 275, 279, 281, 291, 305, 309, 311, 315, 329, 335, 345, 347, 351, 357, 365, 371, 377, 381, 387, 395, 399, 407]
theorem prl_ok : ∀ n, n < 80 → prl.getD n 0 < 408 ∧ ip (prl.getD n 0 + 2) (sq2 (prl.getD n 0 + 2)) = true ∧ pcn (prl.getD n 0) = n := by decide +kernel
theorem prl_3 : ∀ n, n < 80 → bpw (prl.getD n 0 + 2) true = tN (svX 10 n) := by decide +kernel
theorem prl_2 : ∀ n, n < 8 → bpw (prl.getD n 0 + 2) false = tN (svX 9 n) := by decide +kernel
theorem pcn_mono : ∀ m k, pcn k ≤ pcn (k + m)
  | 0, k => Nat.le_refl _
  | m + 1, k => Nat.le_trans (pcn_mono m k) (by
    show pcn (k + m) ≤ if ip (k + m + 2) (sq2 (k + m + 2)) = true then pcn (k + m) + 1 else pcn (k + m)
    split <;> omega)
theorem pcn_lt2 {j i : Nat} (h : j < i) (hp : ip (j + 2) (sq2 (j + 2)) = true) : pcn j < pcn i := by
  have h1 : pcn (j + 1) = pcn j + 1 := if_pos hp
  have h2 := pcn_mono (i - (j + 1)) (j + 1)
  rw [show j + 1 + (i - (j + 1)) = i by omega] at h2
  omega
def rtI (s : zSt) (i : Nat) (τ : zSt) : Prop := (∀ id, id ≠ 5 → id ≠ 6 → id ≠ 7 → id ≠ 8 → id ≠ 9 → τ.1 id = s.1 id) ∧ ∀ j, j < i → ip (j + 2) (sq2 (j + 2)) = true → tN (τ.1 6 (pcn j)) = bpw (j + 2) true ∧ (pcn j < 8 → tN (τ.1 5 (pcn j)) = bpw (j + 2) false)
theorem rt_step (s : zSt) (i : Nat) (τ : zSt) (hi : i < 408) (h : rtI s i τ) : rtI s (i + 1) (fX10_roots__4 i τ) := by
  obtain ⟨h1, h2⟩ := h
  unfold fX10_roots__4 fX10_roots__a1 vX10_isPrime
  cases hp : ip (i + 2) (sq2 (i + 2)) with
  | false =>
    rw [cond_false]
    refine ⟨h1, fun j hj hq => h2 j ?_ hq⟩
    rcases Nat.lt_or_ge j i with q | q
    · exact q
    · rw [show j = i by omega, hp] at hq
      cases hq
  | true =>
    rw [cond_true]
    unfold fX10_roots__a4 fX10_roots__a2 fX10_roots__a3
    dsimp only
    obtain ⟨b1, b2⟩ := bp_done (q := i + 2) (by omega) true τ
    generalize fX10_behindPoint (i + 2) true τ = u at b1 b2 ⊢
    generalize hw : zW (zsnd u) 6 (pcn i) (zfst u) = w
    have w1 : ∀ id, id ≠ 5 → id ≠ 6 → id ≠ 7 → id ≠ 8 → id ≠ 9 → w.1 id = s.1 id := fun id q5 q6 q7 q8 q9 => by rw [← hw, zW_ne _ _ _ q6, b2 id q7 q8 q9, h1 id q5 q6 q7 q8 q9]
    have w6 : w.1 6 = vp_updL (τ.1 6) (pcn i) (zfst u) := by rw [← hw, zW_at, b2 6 (by decide) (by decide) (by decide)]
    have w5 : w.1 5 = τ.1 5 := by rw [← hw, zW_ne _ _ _ (by decide), b2 5 (by decide) (by decide) (by decide)]
    clear hw b2
    have c6 : ∀ j, j < i + 1 → ip (j + 2) (sq2 (j + 2)) = true → tN (w.1 6 (pcn j)) = bpw (j + 2) true := fun j hj hq => by
      rw [w6]
      by_cases q : j = i
      · rw [q, pk_uLs]; exact b1
      · have := pcn_lt2 (show j < i by omega) hq
        rw [pk_uLn (by omega)]
        exact (h2 j (by omega) hq).1
    by_cases h8 : 8 ≤ pcn i
    · rw [if_pos h8]
      refine ⟨w1, fun j hj hq => ⟨c6 j hj hq, fun q8 => ?_⟩⟩
      rw [w5]
      have : j ≠ i := fun e => by rw [e] at q8; omega
      exact (h2 j (by omega) hq).2 q8
    · rw [if_neg h8]
      obtain ⟨d1, d2⟩ := bp_done (q := i + 2) (by omega) false w
      generalize fX10_behindPoint (i + 2) false w = v at d1 d2 ⊢
      have v6 : (zW (zsnd v) 5 (pcn i) (zfst v)).1 6 = w.1 6 := by rw [zW_ne _ _ _ (by decide), d2 6 (by decide) (by decide) (by decide)]
      have v5 : (zW (zsnd v) 5 (pcn i) (zfst v)).1 5 = vp_updL (τ.1 5) (pcn i) (zfst v) := by rw [zW_at, d2 5 (by decide) (by decide) (by decide), w5]
      refine ⟨fun id q5 q6 q7 q8 q9 => by rw [zW_ne _ _ _ q5, d2 id q7 q8 q9, w1 id q5 q6 q7 q8 q9], fun j hj hq => ⟨by rw [v6]; exact c6 j hj hq, fun q8 => ?_⟩⟩
      rw [v5]
      by_cases q : j = i
      · rw [q, pk_uLs]; exact d1
      · have := pcn_lt2 (show j < i by omega) hq
        rw [pk_uLn (by omega)]
        exact (h2 j (by omega) hq).2 q8
theorem roots_done (s : zSt) : (∀ id, id ≠ 5 → id ≠ 6 → id ≠ 7 → id ≠ 8 → id ≠ 9 → (fX10_roots_ s).1 id = s.1 id) ∧ (∀ n, n < 80 → (fX10_roots_ s).1 6 n = svX 10 n) ∧ ∀ n, n < 8 → (fX10_roots_ s).1 5 n = svX 9 n := by
  have eF : fX10_roots_ s = ziter fX10_roots__4 0 408 s := rfl
  rw [eF]
  have H := ziter_I fX10_roots__4 (rtI s) 408 (fun i x hi hx => rt_step s i x hi hx) 408 0 s (by decide) ⟨fun _ _ _ _ _ _ => rfl, fun j hj => absurd hj (Nat.not_lt_zero j)⟩
  generalize ziter fX10_roots__4 0 408 s = t at H ⊢
  obtain ⟨h1, h2⟩ := H
  refine ⟨h1, fun n hn => ?_, fun n hn => ?_⟩
  · obtain ⟨p1, p2, p3⟩ := prl_ok n hn
    have h := (h2 _ p1 p2).1
    rw [p3] at h
    exact tN_inj (h.trans (prl_3 n hn))
  · obtain ⟨p1, p2, p3⟩ := prl_ok n (by omega)
    have h := (h2 _ p1 p2).2 (by omega)
    rw [p3] at h
    exact tN_inj (h.trans (prl_2 n hn))
