/-! calls on both sides: type, at -/
theorem is_at (x : Int32) (b : Nat) (s t : zSt) (hb : b ≤ 400) : vX9_isWithin x (nI b) s = vX10_in x (nI 0) (nI b - nI 1) t := by
  unfold vX9_isWithin fX9_isWithin_a1 fX9_isWithin_a4 fX9_isWithin_a2 fX9_isWithin_a3 vX10_in fX10_in_a1 fX10_in_a4 fX10_in_a2 fX10_in_a3
  have h4 : (nI b - nI 1).toInt = (b : Int) - 1 := by
    rw [Int32.toInt_sub, nI_toInt (by omega), nI_toInt (by omega)]
    exact Int.bmod_eq_of_le (by omega) (by omega)
  have e : nI b ≤ x ↔ nI b - nI 1 < x := by
    rw [Int32.le_iff_toInt_le, Int32.lt_iff_toInt_lt, h4, nI_toInt (by omega)]
    omega
  by_cases h1 : x < 0
  · rw [if_pos h1, if_pos (show x < nI 0 from h1)]
  · rw [if_neg h1, if_neg (show ¬ x < nI 0 from h1)]
    by_cases h2 : nI b - nI 1 < x
    · rw [if_pos h2, if_pos (e.mpr h2)]
    · rw [if_neg h2, if_neg (fun z => h2 (e.mp z))]
theorem c_at {T : Nat} {s t : zSt} (i : Int32) (h : GI T s t) : vX9_at i T s = vX10_at i T t := by
  unfold vX9_at vX10_at
  have hT := h.2.2.2.2.1
  have hX := h.2.2.2.2.2.2.2.1
  rw [h.2.2.2.2.2.2.1, is_at i T s t hT]
  cases e : vX10_in i (nI 0) (nI T - nI 1) t with
  | false => rw [cond_false, cond_false]; rfl
  | true =>
    rw [cond_true, cond_true]
    unfold fX9_at_a2 fX10_at_a2
    rw [hX _ (mat_of hT e).2]
    rfl
/-- some bytes are typed on both sides -/
theorem put_ty {T k : Nat} {s t : zSt} (x : Int64) (h : GI T s t) (hk : T + k ≤ 400) : GI (T + k) (fX7_append x k T s) (ziter (fX10_type_31 x T) 0 k t) := by
  have eX : fX7_append x k T s = ziter (fX7_append_3 x T) 0 k s := rfl
  rw [eX]
  clear eX
  obtain ⟨h1, h2, h3, h4, h6, h7, h8, h9, h10, h14⟩ := h
  have H := ziter_2 (fX7_append_3 x T) (fX10_type_31 x T) (fun i σ τ => σ.1 = s.1 ∧ τ.1 = t.1 ∧ (∀ k, k ≠ 4 → σ.2.2 k = s.2.2 k) ∧ (∀ k, k ≠ 0 → τ.2.2 k = t.2.2 k) ∧ σ.2.2 4 = nI (T + i) ∧ τ.2.2 0 = nI (T + i) ∧ TR (T + i) σ τ) k ?_ k 0 s t (by omega) ⟨rfl, rfl, fun _ _ => rfl, fun _ _ => rfl, h7, h8, h9⟩
  · generalize ziter (fX7_append_3 x T) 0 k s = s' at H ⊢
    generalize ziter (fX10_type_31 x T) 0 k t = t' at H ⊢
    obtain ⟨a1, a2, a3, a4, a5, a6, a7⟩ := H
    have kx : keepX s s' := fun id _ => by rw [a1]
    have km : keepM t t' := ⟨fun j _ => by rw [a2], fun j _ _ => by rw [a2], by rw [a2], by rw [a2]⟩
    refine ⟨CX_keep h1 kx, CM_keep h2 km, HK_keep h3 kx km, fun v hv => ?_, hk, a5, a6, a7, ⟨by rw [a3 0 (by omega), a4 1 (by omega)]; exact h10.1, by rw [a3 1 (by omega), a4 2 (by omega)]; exact h10.2.1, by rw [a3 2 (by omega), a4 3 (by omega)]; exact h10.2.2.1, by rw [a3 3 (by omega), a4 4 (by omega)]; exact h10.2.2.2⟩, by rw [a4 5 (by omega)]; exact h14⟩
    rw [slM_row (t := t') (s := t) (by rw [a2]), ← h4 v hv]
    unfold slX
    rw [a1]
  · intro i σ τ hi ⟨a1, a2, a3, a4, a5, a6, a7⟩
    have e1 : fX7_append_3 x T i σ = zI (zV σ 36 (T + i) (vp_nar .byte (((zus x (8 * i)).toInt32).toInt8.toInt32))) 4 (nI ((T + i) + 1)) := rfl
    have e2 : fX10_type_31 x T i τ = zI (zV τ 1 (T + i) (nI (((zus x (8 * i)).toInt32).toBitVec.toNat % 2 ^ 8))) 0 (nI ((T + i) + 1)) := rfl
    rw [e1, e2]
    refine ⟨by rw [zI_1, zV_1]; exact a1, by rw [zI_1, zV_1]; exact a2, fun k q => by rw [zI_n _ _ q, zV_i]; exact a3 k q, fun k q => by rw [zI_n _ _ q, zV_i]; exact a4 k q, zI_s _ _ _, zI_s _ _ _, fun j hj => ?_⟩
    rw [zI_b, zI_b, zV_at, zV_at]
    by_cases q : j = T + i
    · rw [q, pk_us, pk_us, bt8_v]
      rfl
    · rw [pk_un q, pk_un q]
      exact a7 j (by omega)
theorem c_type {T : Nat} {s t : zSt} (x : Int64) (k : Int32) (h : GI T s t) : zfst (fX9_type x k T s) = zfst (fX10_type x k T t) ∧ ∃ T', GI T' (zsnd (fX9_type x k T s)) (zsnd (fX10_type x k T t)) := by
  unfold fX9_type fX10_type fX9_type_a6 fX9_type_a4
  cases e : vX10_in k (nI 1) (nI 8) t with
  | false =>
    rw [cond_false]
    unfold fX10_type_a4
    unfold vX10_in fX10_in_a1 fX10_in_a4 fX10_in_a2 fX10_in_a3 at e
    by_cases h1 : k < nI 1
    · rw [if_pos h1]
      unfold fX9_type_a1
      simp only [zfst_mk, zsnd_mk]
      exact ⟨trivial, T, h⟩
    · rw [if_neg h1] at e ⊢
      by_cases h2 : nI 8 < k
      · rw [if_neg (fun z => Int32.not_le.mpr h2 z)]
        unfold fX9_type_a5
        simp only [zfst_mk, zsnd_mk]
        exact ⟨trivial, T, h⟩
      · rw [if_neg h2] at e
        cases e
  | true =>
    rw [cond_true]
    unfold fX10_type_a3
    have hk := (mty_of e).2
    unfold vX10_in fX10_in_a1 fX10_in_a4 fX10_in_a2 fX10_in_a3 at e
    by_cases h1 : k < nI 1
    · rw [if_pos h1] at e
      cases e
    · rw [if_neg h1] at e ⊢
      by_cases h2 : nI 8 < k
      · rw [if_pos h2] at e
        cases e
      · rw [if_pos (Int32.not_lt.mp h2)]
        have hT := h.2.2.2.2.1
        by_cases q : T + k.toNatClampNeg ≤ 400
        · rw [if_pos (by omega), if_pos q]
          unfold fX9_type_a2 fX10_type_a1
          dsimp only
          simp only [zfst_mk, zsnd_mk]
          have h2 := put_ty x h q
          exact ⟨h2.2.2.2.2.2.1.trans h2.2.2.2.2.2.2.1.symm, _, h2⟩
        · rw [if_neg (by omega), if_neg q]
          unfold fX9_type_a3 fX10_type_a2
          simp only [zfst_mk, zsnd_mk]
          exact ⟨trivial, T, h⟩
