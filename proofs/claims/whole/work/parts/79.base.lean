/-! slots; the constants that both sides stand on; secrets unfolded -/
def bP : Int × Int := (15112221349535400772501151409588531511454012693041857206046113283949847762202, 46316835694926478169428394003475163141307993866256225615783033603165251855960)
def slM (t : zSt) (v : Nat) : Nat := rN (fun j => t.1 0 (4 * v + j)) 4
def slX (s : zSt) (v : Nat) : Nat := rN (s.1 (11 + v)) 4
theorem rN_inj {r r' : Nat → Int64} {n : Nat} (h : rN r n = rN r' n) : ∀ j, j < n → r j = r' j := fun j hj => tN_inj (by rw [← rN_word r j n hj, ← rN_word r' j n hj, h])
theorem cM_from (p v : Nat) (s : zSt) : w4fr p s (fX10_fromSlot p v s) ∧ w4 (fX10_fromSlot p v s) p = slM s v ∧ (fX10_fromSlot p v s).2 = s.2 := by
  have eF : fX10_fromSlot p v s = fX10_words p (s.1 0 (4 * v)) (s.1 0 (4 * v + 1)) (s.1 0 (4 * v + 2)) (s.1 0 (4 * v + 3)) s := rfl
  rw [eF]
  refine ⟨(cM_words (s := s) p _ _ _ _).1, ?_, rfl⟩
  rw [cM_words_v]
  unfold slM
  rw [rN_4]
  rfl
theorem cM_to (v p : Nat) (s : zSt) : (∀ id j, ¬ (id = 0 ∧ 4 * v ≤ j ∧ j < 4 * v + 4) → (fX10_toSlot v p s).1 id j = s.1 id j) ∧ slM (fX10_toSlot v p s) v = w4 s p ∧ (∀ u, u ≠ v → slM (fX10_toSlot v p s) u = slM s u) ∧ (fX10_toSlot v p s).2 = s.2 := by
  have h := zmap (F := fX10_toSlot_2 v p) (s0 := s) 0 (4 * v) 4 (fun i => s.1 4 (p + i)) (fun i σ hi h => by
    show zW σ 0 (4 * v + i) (σ.1 4 (p + i)) = _
    rw [h 4 (p + i) (by omega)])
  have h2 : (ziter (fX10_toSlot_2 v p) 0 4 s).2 = s.2 := ziter_keep (fun z : zSt => z.2) (fX10_toSlot_2 v p) (fun _ _ => rfl) 4 0 s
  have eF : fX10_toSlot v p s = ziter (fX10_toSlot_2 v p) 0 4 s := rfl
  rw [eF]
  generalize ziter (fX10_toSlot_2 v p) 0 4 s = t at h h2 ⊢
  exact ⟨fun id j q => h.1 id j (by omega), rN_congr (fun i hi => h.2 i hi), fun u hu => rN_congr (fun i hi => h.1 0 (4 * u + i) (by omega)), h2⟩
def keepX (s t : zSt) : Prop := ∀ id, (id ≤ 10 ∨ id = 38 ∨ id = 39 ∨ (67 ≤ id ∧ id ≤ 74)) → t.1 id = s.1 id
def keepM (s t : zSt) : Prop := (∀ j, j < 144 → t.1 2 j = s.1 2 j) ∧ (∀ j, 32 ≤ j → j < 40 → t.1 4 j = s.1 4 j) ∧ t.1 5 = s.1 5 ∧ t.1 6 = s.1 6
theorem keepX.trans {s t u : zSt} (h : keepX s t) (g : keepX t u) : keepX s u := fun id q => (g id q).trans (h id q)
theorem keepM.trans {s t u : zSt} (h : keepM s t) (g : keepM t u) : keepM s u := ⟨fun j q => (g.1 j q).trans (h.1 j q), fun j q q2 => (g.2.1 j q q2).trans (h.2.1 j q q2), g.2.2.1.trans h.2.2.1, g.2.2.2.trans h.2.2.2⟩
def CX (s : zSt) : Prop := kX s ∧ kS s ∧ rX s 67 bP
def CM (t : zSt) : Prop := kM t ∧ rM t 5 bP
theorem CX_keep {s t : zSt} (h : CX s) (k : keepX s t) : CX t := ⟨kX_row h.1 (fun id q => k id (by omega)), kS_row h.2.1 (fun id q => k id (by omega)), rX_row h.2.2 (fun i hi => k _ (by omega))⟩
theorem CM_keep {s t : zSt} (h : CM s) (k : keepM s t) : CM t := ⟨kM_row h.1 (fun j q => k.1 j (by omega)) k.2.1, rM_row h.2 (fun j q1 q2 => k.1 j (by omega))⟩
/-- the constants of SHA-512 are one -/
def HK (s t : zSt) : Prop := (∀ i, i < 80 → s.1 10 i = t.1 6 i) ∧ ∀ k, k < 8 → s.1 9 k = t.1 5 k
theorem HK_keep {s t s' t' : zSt} (h : HK s t) (kx : keepX s s') (km : keepM t t') : HK s' t' := ⟨fun i hi => by rw [kx 10 (by omega), km.2.2.2]; exact h.1 i hi, fun k hk => by rw [kx 9 (by omega), km.2.2.1]; exact h.2 k hk⟩
/-- the number of a message: both sides reduce it alike -/
theorem hs_rel {s t : zSt} {n o p : Nat} (hM : MR n s t) (hn : n < 500) (hk : HK s t) (hS : kS s) (hL : w4 t 32 = 7237005577332262213973186563042994240857116359379907606001950938285454250989) (ho : o = 183 ∨ o = 184) (hp : p + 4 ≤ 32 ∨ 36 ≤ p) :
    rN ((fX4_reduce 180 8 512 o (fX5_finish 180 n s)).1 o) 4 = w4 (fX10_digestScalar p (fX10_digests n t)) p
      ∧ (∀ id, id ≠ 177 → id ≠ 178 → id ≠ 180 → id ≠ o → (fX4_reduce 180 8 512 o (fX5_finish 180 n s)).1 id = s.1 id) ∧ (∀ id, id ≠ 176 → (fX4_reduce 180 8 512 o (fX5_finish 180 n s)).2.1 id = s.2.1 id) ∧ (∀ k, k ≠ 5 → (fX4_reduce 180 8 512 o (fX5_finish 180 n s)).2.2 k = s.2.2 k)
      ∧ (∀ id j, id ≠ 11 → id ≠ 12 → id ≠ 13 → id ≠ 15 → id ≠ 16 → ¬ (id = 4 ∧ p ≤ j ∧ j < p + 4) → (fX10_digestScalar p (fX10_digests n t)).1 id j = t.1 id j) ∧ (∀ id, id ≠ 10 → id ≠ 14 → (fX10_digestScalar p (fX10_digests n t)).2.1 id = t.2.1 id) ∧ (∀ k, k ≠ 5 → (fX10_digestScalar p (fX10_digests n t)).2.2 k = t.2.2 k) ∧ (fX10_digestScalar p (fX10_digests n t)).2.2 5 = nI 0 := by
  obtain ⟨W, h1, h2, h3, h4, h5, h6, h7, h8, h9⟩ := sha_rel (out := 180) hM hn hk.1 hk.2 (by omega)
  generalize fX5_finish 180 n s = s1 at h1 h3 h4 h5 ⊢
  generalize fX10_digests n t = t1 at h2 h6 h7 h8 h9 ⊢
  obtain ⟨r1, r2⟩ := sX_red (row := 180) (k := 8) (n := 8) (out := o) (s := s1) (kS_row hS (fun id q => h3 id (by omega) (by omega) (by omega))) (by omega) (by omega) (by omega)
  rw [show 64 * 8 = 512 from rfl] at r1 r2
  have k2' := k2_fX4_reduce 180 8 512 o s1
  generalize fX4_reduce 180 8 512 o s1 = s2 at r1 r2 k2' ⊢
  obtain ⟨d1, d2⟩ := cM_dsc (p := p) (r := s1.1 180) h2 (by rw [w4_keep (t := t1) (s := t) (fun k hk => by rw [h6 4 (by omega) (by omega) (by omega)])]; exact hL) h1
  have k3 := k2_fX10_digestScalar p t1
  generalize fX10_digestScalar p t1 = t2 at d1 d2 k3 ⊢
  refine ⟨by rw [r2, d2], fun id q1 q2 q3 q4 => by rw [r1 id q4, h3 id q1 q2 q3], fun id q => by rw [z2_B k2' id, h4 id q], fun k q => by rw [z2_I k2' k, h5 k q], fun id j q1 q2 q3 q4 q5 q6 => by rw [d1 id j q4 q5 q6, h6 id q1 q2 q3], fun id q1 q2 => by rw [z2_B k3 id, h7 id q1 q2], fun k q => by rw [z2_I k3 k, h8 k q], by rw [z2_I k3 5, h9]⟩
