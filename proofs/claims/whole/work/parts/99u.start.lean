/-! both sides behind their constructors: the relation of both stores holds -/
def sX (s : zSt) : zSt := gX0 (fX1_load 3 39 s)
def tM (t : zSt) : zSt := fX10_roots_ (zsnd (fX10_open 5 24 (gM t)))
theorem X_start {s : zSt} (hs : ZS s) (hZ : Z0 11 0 s) : CX (sX s) ∧ (∀ id, id ≤ 38 → (sX s).1 id = s.1 id) ∧ zk2 (sX s) = zk2 s := by
  obtain ⟨l1, l2⟩ := cX_load (s := s) (ws := 3) (out := 39) (by decide)
  have n3 : ((rN (svX 3) 4 % 2 ^ 255 : Nat) : Int) = cI := by decide +kernel
  rw [hs.rn (id := 3) (by decide) rfl, n3] at l2
  have hs1 := zs_X1 hs
  have k1 := k2_fX1_load 3 39 s
  unfold sX
  generalize fX1_load 3 39 s = s1 at l1 l2 hs1 k1 ⊢
  obtain ⟨d1, d2, d3, d4, d5, d6⟩ := X0_done hs1
  generalize gX0 s1 = s2 at d1 d2 d3 d4 d5 d6 ⊢
  have low : ∀ id, id ≤ 38 → s2.1 id = s.1 id := fun id hi => by rw [d1 id (by omega) (by omega) (by omega) (by omega) (by omega) (by omega) (by omega) (by omega), l1 id (by omega)]
  have st : ∀ id, id < 11 → lnX id = 4 → rN (s2.1 id) 4 = rN (svX id) 4 := fun id h1 h2 => by rw [low id (by omega)]; exact hs.rn h1 h2
  refine ⟨⟨⟨?_, ?_, d2, d3, d4, ?_, ?_, ?_⟩, ⟨?_, ?_⟩, d5⟩, low, d6.trans k1⟩
  · have e : s2.1 38 = fun _ => 0 := (low 38 (by decide)).trans (hZ.1 38 (by decide)).1
    refine ⟨?_, fun i _ => ?_⟩
    · rw [e]
      show zc (rv 26 (fun _ => 0) 10) 0
      rw [rv_z]
      exact zc_refl 0
    · rw [e]
      show -(((0 : Nat) : Int) * 83886080) ≤ (0 : Int64).toInt ∧ (0 : Int64).toInt ≤ ((0 : Nat) : Int) * 83886080
      decide
  · exact zf_row l2 (d1 39 (by decide) (by decide) (by decide) (by decide) (by decide) (by decide) (by decide) (by decide))
  · rw [st 0 (by decide) rfl]; decide +kernel
  · rw [st 1 (by decide) rfl]; decide +kernel
  · rw [st 2 (by decide) rfl]; decide +kernel
  · rw [st 4 (by decide) rfl]; decide +kernel
  · rw [st 5 (by decide) rfl]; decide +kernel
theorem M_start {t : zSt} (hZ : Z0 0 1 t) : zfst (fX10_open 5 24 (gM t)) = true ∧ CM (tM t) ∧ (tM t).1 0 = (fun _ => 0) ∧ (∀ n, n < 80 → (tM t).1 6 n = svX 10 n) ∧ (∀ n, n < 8 → (tM t).1 5 n = svX 9 n) ∧ zk2 (tM t) = zk2 t := by
  obtain ⟨g1, g2, g3⟩ := gM_done (s := t) (hZ.1 2 (Nat.zero_le _)).1
  have g4 := gM_k2 t
  unfold tM
  generalize gM t = u at g1 g2 g3 g4 ⊢
  obtain ⟨o1, o2, o3⟩ := cM_open (p := 5) (q := 24) g1 (by decide)
  have ok := k2_fX10_open 5 24 u
  rw [g2] at o2 o3
  obtain ⟨b1, b2⟩ := base_ok
  obtain ⟨r1, -, -⟩ := o3 b1
  have r2 := rM_pe r1 b2
  refine ⟨o2.trans b1, ?_⟩
  generalize zsnd (fX10_open 5 24 u) = v at o1 ok r2 ⊢
  obtain ⟨w1, w2, w3⟩ := roots_done v
  have wk := k2_fX10_roots_ v
  generalize fX10_roots_ v = x at w1 w2 w3 wk ⊢
  refine ⟨⟨kM_row g1 (fun j hj => ?_) (fun j h1 h2 => ?_), rM_row r2 (fun j _ _ => by rw [w1 2 (by decide) (by decide) (by decide) (by decide) (by decide)])⟩, ?_, w2, w3, wk.trans (ok.trans g4)⟩
  · rw [w1 2 (by decide) (by decide) (by decide) (by decide) (by decide), o1 2 j (by decide) (by omega) (by omega) (by omega) (by omega) (by omega)]
  · rw [w1 4 (by decide) (by decide) (by decide) (by decide) (by decide), o1 4 j (by decide) (by omega) (by omega) (by omega) (by omega) (by omega)]
  · rw [w1 0 (by decide) (by decide) (by decide) (by decide) (by decide)]
    refine (funext fun j => o1 0 j (by decide) (by omega) (by omega) (by omega) (by omega) (by omega)).trans ?_
    rw [g3 0 (by decide) (by decide) (by decide)]
    exact (hZ.1 0 (Nat.le_refl 0)).1
theorem GI_start {s t : zSt} (hs : ZS s) (hZ : Z0 11 0 s) (hM : Z0 0 1 t) : GI 0 (sX s) (tM t) := by
  obtain ⟨a1, a2, a3⟩ := X_start hs hZ
  obtain ⟨-, m2, m3, m4, m5, m6⟩ := M_start hM
  generalize sX s = s' at a1 a2 a3 ⊢
  generalize tM t = t' at m2 m3 m4 m5 m6 ⊢
  have ns : ∀ k, s'.2.2 k = bif Nat.beq k 0 then nI 400 else nI 0 := fun k => by rw [z2_I a3 k]; exact hZ.2 k
  have nt : ∀ k, t'.2.2 k = bif Nat.beq k 1 then nI 400 else nI 0 := fun k => by rw [z2_I m6 k]; exact hM.2 k
  refine ⟨a1, m2, ⟨fun i hi => ?_, fun k hk => ?_⟩, fun v hv => ?_, Nat.zero_le _, ns 4, nt 0, fun i hi => absurd hi (Nat.not_lt_zero i), ⟨(ns 0).trans (nt 1).symm, (ns 1).trans (nt 2).symm, (ns 2).trans (nt 3).symm, (ns 3).trans (nt 4).symm⟩, nt 5⟩
  · rw [m4 i hi, a2 10 (by decide)]
    exact hs 10 (by decide) i hi
  · rw [m5 k hk, a2 9 (by decide)]
    exact hs 9 (by decide) k hk
  · unfold slX slM
    rw [a2 (11 + v) (by omega), (hZ.1 (11 + v) (by omega)).1, m3]
