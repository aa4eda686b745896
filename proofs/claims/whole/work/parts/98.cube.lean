/-! the reference's powers: whole products, square and cube -/
theorem pw_outer {R a b N M n : Nat} {F : Nat → Nat → zSt → zSt} {G : Nat → zSt → zSt} (hF : ∀ i j τ, F i j τ = zW τ R (i + j) (τ.1 R (i + j) + τ.1 a i * τ.1 b j)) (hG : ∀ i τ, G i τ = ziter (F i) 0 N τ) (hRa : a ≠ R) (hRb : b ≠ R) (σ : zSt) (hM : M ≤ 12) (hA : ∀ i, i < M → 0 ≤ (σ.1 a i).toInt ∧ (σ.1 a i).toInt ≤ 65535) (hB : ∀ j, j < N → 0 ≤ (σ.1 b j).toInt ∧ (σ.1 b j).toInt ≤ 65535) (h0 : ∀ k, k < n → σ.1 R k = 0) (hn : M + N ≤ n) :
    (∀ id, id ≠ R → (ziter G 0 M σ).1 id = σ.1 id) ∧ (ziter G 0 M σ).2 = σ.2 ∧ rv 16 ((ziter G 0 M σ).1 R) n = rv 16 (σ.1 a) M * rv 16 (σ.1 b) N ∧ (∀ k, k < n → 0 ≤ ((ziter G 0 M σ).1 R k).toInt ∧ ((ziter G 0 M σ).1 R k).toInt ≤ 1125899906842624) := by
  have z0 : (0 : Int64).toInt = 0 := by decide
  have H := ziter_I G (fun i τ => (∀ id, id ≠ R → τ.1 id = σ.1 id) ∧ τ.2 = σ.2 ∧ rv 16 (τ.1 R) n = rv 16 (σ.1 a) i * rv 16 (σ.1 b) N ∧ (∀ k, k < n → 0 ≤ (τ.1 R k).toInt ∧ (τ.1 R k).toInt ≤ (i : Int) * 4294967296)) M ?_ M 0 σ (by omega)
    ⟨fun _ _ => rfl, rfl, by rw [rv_congr (r' := fun _ => 0) h0, rv_z, rv_0, Int.zero_mul], fun k hk => by rw [h0 k hk, z0]; omega⟩
  · exact ⟨H.1, H.2.1, H.2.2.1, fun k hk => by have := H.2.2.2 k hk; omega⟩
  intro i τ hi ⟨h1, h2, h3, h4⟩
  rw [hG]
  obtain ⟨a1, a2, a3, a4⟩ := pw_inner (F := F i) (n := n) (N := N) (hF i) hRa hRb τ (by rw [h1 a hRa]; exact hA i hi) (fun j hj => by rw [h1 b hRb]; exact hB j hj) (fun k hk => by have := h4 k hk; omega) (by omega)
  refine ⟨fun id q => (a1 id q).trans (h1 id q), a2.trans h2, ?_, fun k hk => ?_⟩
  · rw [a3, h3, h1 a hRa, h1 b hRb, rv_succ, Int.add_mul]
  · have := h4 k hk
    have := a4 k
    omega
/-- square and cube of the number in row 7 -/
theorem powers_v {s : zSt} (hr : ∀ j, j < 5 → 0 ≤ (s.1 7 j).toInt ∧ (s.1 7 j).toInt ≤ 65535) : (∀ id, id ≠ 8 → id ≠ 9 → (fX10_powers s).1 id = s.1 id) ∧ (fX10_powers s).2 = s.2
      ∧ rv 16 ((fX10_powers s).1 8) 12 = rv 16 (s.1 7) 5 * rv 16 (s.1 7) 5 ∧ (∀ k, k < 11 → 0 ≤ ((fX10_powers s).1 8 k).toInt ∧ ((fX10_powers s).1 8 k).toInt ≤ 65535) ∧ 0 ≤ ((fX10_powers s).1 8 11).toInt
      ∧ rv 16 ((fX10_powers s).1 9) 18 = rv 16 ((fX10_powers s).1 8) 11 * rv 16 (s.1 7) 5 ∧ (∀ k, k < 17 → 0 ≤ ((fX10_powers s).1 9 k).toInt ∧ ((fX10_powers s).1 9 k).toInt ≤ 65535) ∧ 0 ≤ ((fX10_powers s).1 9 17).toInt := by
  have eF : fX10_powers s = ziter fX10_powers_191 0 17 (ziter fX10_powers_140 0 11 (ziter fX10_powers_94 0 11 (ziter fX10_powers_44 0 5 (ziter fX10_powers_23 0 12 (ziter fX10_powers_2 0 18 s))))) := rfl
  rw [eF]
  clear eF
  have a := zmap0 (F := fX10_powers_2) (s0 := s) 9 18 (fun _ => 0) (fun i σ _ _ => rfl)
  have a' : (ziter fX10_powers_2 0 18 s).2 = s.2 := ziter_keep (fun z : zSt => z.2) fX10_powers_2 (fun _ _ => rfl) 18 0 s
  generalize ziter fX10_powers_2 0 18 s = s1 at a a' ⊢
  have b := zmap0 (F := fX10_powers_23) (s0 := s1) 8 12 (fun _ => 0) (fun i σ _ _ => rfl)
  have b' : (ziter fX10_powers_23 0 12 s1).2 = s1.2 := ziter_keep (fun z : zSt => z.2) fX10_powers_23 (fun _ _ => rfl) 12 0 s1
  generalize ziter fX10_powers_23 0 12 s1 = s2 at b b' ⊢
  have r2 : s2.1 7 = s.1 7 := funext fun j => by rw [b.1 7 j (by omega), a.1 7 j (by omega)]
  have z2 : ∀ k, k < 18 → s2.1 9 k = 0 := fun k hk => by rw [b.1 9 k (by omega), a.2 k hk]
  have f2 : ∀ id, id ≠ 8 → id ≠ 9 → s2.1 id = s.1 id := fun id q1 q2 => funext fun j => by rw [b.1 id j (by omega), a.1 id j (by omega)]
  obtain ⟨c1, c2, c3, c4⟩ := pw_outer (R := 8) (a := 7) (b := 7) (N := 5) (M := 5) (n := 12) (F := fX10_powers_51) (G := fX10_powers_44) (fun _ _ _ => rfl) (fun _ _ => rfl) (by omega) (by omega) s2 (by omega) (fun i hi => by rw [r2]; exact hr i hi) (fun i hi => by rw [r2]; exact hr i hi) (fun k hk => b.2 k hk) (by omega)
  rw [r2] at c3
  generalize ziter fX10_powers_44 0 5 s2 = s3 at c1 c2 c3 c4 ⊢
  obtain ⟨d1, d2', d3, d4, d5, d6⟩ := pw_carry (R := 8) (N := 11) (n := 12) (F := fX10_powers_94) (fun _ _ => rfl) s3 (by omega) c4
  rw [c3] at d3
  generalize ziter fX10_powers_94 0 11 s3 = s4 at d1 d2' d3 d4 d5 d6 ⊢
  have r4 : s4.1 7 = s.1 7 := by rw [d1 7 (by omega), c1 7 (by omega), r2]
  obtain ⟨e1, e2, e3, e4⟩ := pw_outer (R := 9) (a := 8) (b := 7) (N := 5) (M := 11) (n := 18) (F := fX10_powers_148) (G := fX10_powers_140) (fun _ _ _ => rfl) (fun _ _ => rfl) (by omega) (by omega) s4 (by omega) d4 (fun i hi => by rw [r4]; exact hr i hi) (fun k hk => by rw [d1 9 (by omega), c1 9 (by omega)]; exact z2 k hk) (by omega)
  rw [r4] at e3
  generalize ziter fX10_powers_140 0 11 s4 = s5 at e1 e2 e3 e4 ⊢
  obtain ⟨g1, g2, g3, g4, g5, g6⟩ := pw_carry (R := 9) (N := 17) (n := 18) (F := fX10_powers_191) (fun _ _ => rfl) s5 (by omega) e4
  rw [e3] at g3
  generalize ziter fX10_powers_191 0 17 s5 = s6 at g1 g2 g3 g4 g5 g6 ⊢
  have r8 : s6.1 8 = s4.1 8 := by rw [g1 8 (by omega), e1 8 (by omega)]
  rw [r8]
  exact ⟨fun id q1 q2 => by rw [g1 id q2, e1 id q2, d1 id q1, c1 id q1, f2 id q1 q2], by rw [g2, e2, d2', c2, b', a'], d3, d4, d6, g3, g4, g6⟩
