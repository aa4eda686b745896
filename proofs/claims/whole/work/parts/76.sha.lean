/-! SHA-512 on both sides, run by run -/
theorem ziter_2 {α β : Type} (f : Nat → α → α) (g : Nat → β → β) (I : Nat → α → β → Prop) (N : Nat) (h : ∀ i x y, i < N → I i x y → I (i + 1) (f i x) (g i y)) : ∀ (n i : Nat) (x : α) (y : β), i + n = N → I i x y → I N (ziter f i n x) (ziter g i n y)
  | 0, i, x, y, e, hi => by have e2 : i = N := e; subst e2; exact hi
  | n + 1, i, x, y, e, hi => ziter_2 f g I N h n (i + 1) (f i x) (g i y) (by omega) (h i x y (by omega) hi)
def bt8 (x : Int32) : Nat := x.toBitVec.toNat % 2 ^ 8
theorem bt8_I (x : Int32) : ((bt8 x : Nat) : Int) = x.toInt % 256 := by
  have h : x.toInt = if 2 * x.toBitVec.toNat < 4294967296 then (x.toBitVec.toNat : Int) else (x.toBitVec.toNat : Int) - 4294967296 := BitVec.toInt_eq_toNat_cond _
  unfold bt8
  split at h <;> omega
theorem bt8_n (x : Int32) : bt8 (x.toInt8.toInt32) = bt8 x := by
  have h1 := bt8_I (x.toInt8.toInt32)
  have h2 := bt8_I x
  rw [Int8.toInt_toInt32, Int32.toInt_toInt8] at h1
  have h3 : Int.bmod x.toInt (2 ^ 8) % 256 = x.toInt % 256 := Int.bmod_emod
  omega
theorem bt8_v (x : Int32) : bt8 (vp_nar .byte (x.toInt8.toInt32)) = bt8 x := by rw [pk_vb, bt8_n]
theorem bt8_nI {n : Nat} (h : n < 256) : bt8 (nI n) = n := by
  unfold bt8
  rw [pk_tn (by omega), Nat.mod_eq_of_lt (by omega)]
theorem bt8_lt (x : Int32) : bt8 x < 256 := Nat.mod_lt _ (by decide)
theorem zV_at (σ : zSt) (a i : Nat) (v : Int32) : (zV σ a i v).2.1 a = upd (σ.2.1 a) i v := zB_s _ _ _
theorem zV_ne (σ : zSt) {a b : Nat} (i : Nat) (v : Int32) (h : b ≠ a) : (zV σ a i v).2.1 b = σ.2.1 b := zB_n _ _ h
theorem zV_1 (σ : zSt) (a i : Nat) (v : Int32) : (zV σ a i v).1 = σ.1 := id rfl
theorem zV_i (σ : zSt) (a i : Nat) (v : Int32) : (zV σ a i v).2.2 = σ.2.2 := id rfl
theorem zI_1 (σ : zSt) (a : Nat) (v : Int32) : (zI σ a v).1 = σ.1 := id rfl
theorem zI_b (σ : zSt) (a : Nat) (v : Int32) : (zI σ a v).2.1 = σ.2.1 := id rfl
theorem zW_b (σ : zSt) (a i : Nat) (v : Int64) : (zW σ a i v).2 = σ.2 := id rfl
/-- n bytes of the messages are one -/
def MR (n : Nat) (s t : zSt) : Prop := ∀ i, i < n → t.2.1 10 i = nI (bt8 (s.2.1 176 i))
/-- what building a message leaves alone: in the class, in the reference -/
def fmX (s t : zSt) : Prop := t.1 = s.1 ∧ (∀ id, id ≠ 176 → t.2.1 id = s.2.1 id) ∧ ∀ k, k ≠ 5 → t.2.2 k = s.2.2 k
def fmM (s t : zSt) : Prop := t.1 = s.1 ∧ (∀ id, id ≠ 10 → t.2.1 id = s.2.1 id) ∧ ∀ k, k ≠ 5 → t.2.2 k = s.2.2 k
theorem fmX.refl {s : zSt} : fmX s s := ⟨rfl, fun _ _ => rfl, fun _ _ => rfl⟩
theorem fmM.refl {s : zSt} : fmM s s := ⟨rfl, fun _ _ => rfl, fun _ _ => rfl⟩
theorem fmX.trans {s t u : zSt} (h : fmX s t) (g : fmX t u) : fmX s u := ⟨g.1.trans h.1, fun id q => (g.2.1 id q).trans (h.2.1 id q), fun k q => (g.2.2 k q).trans (h.2.2 k q)⟩
theorem fmM.trans {s t u : zSt} (h : fmM s t) (g : fmM t u) : fmM s u := ⟨g.1.trans h.1, fun id q => (g.2.1 id q).trans (h.2.1 id q), fun k q => (g.2.2 k q).trans (h.2.2 k q)⟩
theorem tk_X (b : Int32) (L : Nat) (s : zSt) : fmX s (fX5_takeByte b L s) ∧ (fX5_takeByte b L s).2.1 176 = upd (s.2.1 176) L (vp_nar .byte (b.toInt8.toInt32)) := by
  have e : fX5_takeByte b L s = zI (zV s 176 L (vp_nar .byte (b.toInt8.toInt32))) 5 (nI (L + 1)) := rfl
  rw [e]
  refine ⟨⟨?_, fun id q => ?_, fun k q => ?_⟩, ?_⟩
  · rw [zI_1, zV_1]
  · rw [zI_b, zV_ne _ _ _ q]
  · rw [zI_n _ _ q, zV_i]
  · rw [zI_b, zV_at]
theorem tk_M (b : Int32) (L : Nat) (s : zSt) : fmM s (fX10_tell b L s) ∧ (fX10_tell b L s).2.1 10 = upd (s.2.1 10) L b := by
  have e : fX10_tell b L s = zI (zV s 10 L b) 5 (nI (L + 1)) := rfl
  rw [e]
  refine ⟨⟨?_, fun id q => ?_, fun k q => ?_⟩, ?_⟩
  · rw [zI_1, zV_1]
  · rw [zI_b, zV_ne _ _ _ q]
  · rw [zI_n _ _ q, zV_i]
  · rw [zI_b, zV_at]
/-- one byte more on both sides -/
theorem MR_one {L : Nat} {s t : zSt} {x y : Int32} (h : MR L s t) (e : y = nI (bt8 x)) : MR (L + 1) (fX5_takeByte x L s) (fX10_tell y L t) := by
  intro i hi
  rw [(tk_X x L s).2, (tk_M y L t).2]
  by_cases q : i = L
  · rw [q, pk_us, pk_us, bt8_v]
    exact e
  · rw [pk_un q, pk_un q]
    exact h i (by omega)
theorem MR_row {ws p L : Nat} {s t : zSt} (h : MR L s t) (hw : ∀ j, j < 4 → s.1 ws j = t.1 4 (p + j)) : MR (L + 32) (fX5_takeRow ws L s) (fX10_tellWords p L t) ∧ fmX s (fX5_takeRow ws L s) ∧ fmM t (fX10_tellWords p L t) := by
  refine ziter_2 (fX5_takeRow_2 ws L) (fX10_tellWords_2 p L) (fun i σ τ => MR (L + i) σ τ ∧ fmX s σ ∧ fmM t τ) 32 ?_ 32 0 s t (by omega) ⟨h, fmX.refl, fmM.refl⟩
  intro i σ τ hi ⟨h1, h2, h3⟩
  have e : (zus (τ.1 4 (p + i / 2 ^ 3)) (8 * (i % 2 ^ 3))) = zus (σ.1 ws (i / 2 ^ 3)) (8 * (i % 2 ^ 3)) := by rw [h3.1, h2.1, hw (i / 2 ^ 3) (by omega)]
  exact ⟨MR_one h1 (by show nI (_ % 2 ^ 8) = _; rw [e]; rfl), h2.trans (tk_X _ _ _).1, h3.trans (tk_M _ _ _).1⟩
/-- THE TEXT is one -/
def TR (n : Nat) (s t : zSt) : Prop := ∀ i, i < n → t.2.1 1 i = nI (bt8 (s.2.1 36 i))
theorem MR_text {L T : Nat} {s t : zSt} (h : MR L s t) (hT : TR T s t) : MR (L + T) (fX5_takeText L T s) (fX10_tellText L T t) ∧ fmX s (fX5_takeText L T s) ∧ fmM t (fX10_tellText L T t) := by
  refine ziter_2 (fX5_takeText_2 L) (fX10_tellText_2 L) (fun i σ τ => MR (L + i) σ τ ∧ fmX s σ ∧ fmM t τ) T ?_ T 0 s t (by omega) ⟨h, fmX.refl, fmM.refl⟩
  intro i σ τ hi ⟨h1, h2, h3⟩
  have e : τ.2.1 1 i = nI (bt8 (nI (vX7_byteAt i σ))) := by
    have e1 : vX7_byteAt i σ = bt8 (s.2.1 36 i) := by
      show bt8 (σ.2.1 36 i) = _
      rw [h2.2.1 36 (by omega)]
    rw [h3.2.1 1 (by omega), hT i hi, e1, bt8_nI (bt8_lt _)]
  exact ⟨MR_one h1 e, h2.trans (tk_X _ _ _).1, h3.trans (tk_M _ _ _).1⟩
/-- the end of the message -/
def pbv (n i : Nat) : Nat := if i = n then 128 else if i + 1 = (n + 144) / 128 * 128 then 8 * n % 256 else if i + 2 = (n + 144) / 128 * 128 then 8 * n / 256 % 256 else 0
theorem pad_X (L : Nat) (s : zSt) (hL : L < 500) : fmX s (fX5_pad ((L + 144) / 128 * 128) L s) ∧ (∀ i, i < L → (fX5_pad ((L + 144) / 128 * 128) L s).2.1 176 i = s.2.1 176 i) ∧ ∀ i, L ≤ i → i < (L + 144) / 128 * 128 → bt8 ((fX5_pad ((L + 144) / 128 * 128) L s).2.1 176 i) = pbv L i := by
  generalize hen : (L + 144) / 128 * 128 = en
  have eF : ∀ u, u = ziter fX5_pad_18 (L + 1) (en - (L + 1)) (zV s 176 L (vp_nar .byte (-128))) → fX5_pad en L s = zV (zV u 176 (en - 1) (vp_nar .byte ((nI (8 * L)).toInt8.toInt32))) 176 (en - 2) (vp_nar .byte ((((nI (8 * L)).toUInt32 >>> ((nI 8).toUInt32 &&& Int32.toUInt32 31)).toInt32).toInt8.toInt32)) := fun u e => by rw [e]; rfl
  have H := ziter_I fX5_pad_18 (fun i σ => L + 1 ≤ i ∧ fmX s σ ∧ (∀ j, j < L → σ.2.1 176 j = s.2.1 176 j) ∧ bt8 (σ.2.1 176 L) = 128 ∧ ∀ j, L < j → j < i → bt8 (σ.2.1 176 j) = 0) en ?_ (en - (L + 1)) (L + 1) (zV s 176 L (vp_nar .byte (-128))) (by omega) ?_
  · rw [eF _ rfl]
    generalize ziter fX5_pad_18 (L + 1) (en - (L + 1)) (zV s 176 L (vp_nar .byte (-128))) = u at H
    obtain ⟨-, h1, h2, h3, h4⟩ := H
    have e8 : ((nI (8 * L)).toUInt32 >>> ((nI 8).toUInt32 &&& Int32.toUInt32 31)).toInt32 = nI (8 * L / 2 ^ 8) := pk_ushrN (by omega) (nI 8) 8 (by decide)
    refine ⟨⟨?_, fun id q => ?_, fun k q => ?_⟩, fun i hi => ?_, fun i h5 h6 => ?_⟩
    · rw [zV_1, zV_1]; exact h1.1
    · rw [zV_ne _ _ _ q, zV_ne _ _ _ q]; exact h1.2.1 id q
    · rw [zV_i, zV_i]; exact h1.2.2 k q
    · rw [zV_at, pk_un (by omega), zV_at, pk_un (by omega)]
      exact h2 i hi
    · unfold pbv
      rw [hen, zV_at, zV_at]
      by_cases q0 : i = L
      · rw [if_pos q0, pk_un (by omega), pk_un (by omega), q0]
        exact h3
      · rw [if_neg q0]
        by_cases q1 : i + 1 = en
        · rw [if_pos q1, pk_un (by omega), show i = en - 1 by omega, pk_us, bt8_v]
          unfold bt8
          rw [pk_tn (by omega)]
        · rw [if_neg q1]
          by_cases q2 : i + 2 = en
          · rw [if_pos q2, show i = en - 2 by omega, pk_us, e8, bt8_v]
            unfold bt8
            rw [pk_tn (by omega)]
          · rw [if_neg q2, pk_un (by omega), pk_un (by omega)]
            exact h4 i (by omega) h6
  · intro i σ hi ⟨q0, h1, h2, h3, h4⟩
    have e : fX5_pad_18 i σ = zV σ 176 i (vp_nar .byte (nI 0)) := rfl
    rw [e]
    refine ⟨by omega, ⟨?_, fun id q => ?_, fun k q => ?_⟩, fun j hj => ?_, ?_, fun j h5 h6 => ?_⟩
    · rw [zV_1]; exact h1.1
    · rw [zV_ne _ _ _ q]; exact h1.2.1 id q
    · rw [zV_i]; exact h1.2.2 k q
    · rw [zV_at, pk_un (by omega)]; exact h2 j hj
    · rw [zV_at, pk_un (by omega)]; exact h3
    · rw [zV_at]
      by_cases q : j = i
      · rw [q, pk_us]
        decide
      · rw [pk_un q]
        exact h4 j h5 (by omega)
  · refine ⟨Nat.le_refl _, ⟨?_, fun id q => ?_, fun k q => ?_⟩, fun j hj => ?_, ?_, fun j h5 h6 => by omega⟩
    · rw [zV_1]
    · rw [zV_ne _ _ _ q]
    · rw [zV_i]
    · rw [zV_at, pk_un (by omega)]
    · rw [zV_at, pk_us]
      decide
def pdM (L : Nat) (s : zSt) : zSt := zdown (fX10_digests_36 L) 16 (ziter (fX10_digests_12 L) 0 ((239 - L % 128) % 128) (fX10_tell (nI 128) L s))
theorem ush_M {L k : Nat} (hL : L < 500) (hk : k ≤ 3) : ((((nI (8 * L)).toUInt32 >>> ((nI (8 * k)).toUInt32 &&& Int32.toUInt32 31)).toInt32).toBitVec.toNat % 2 ^ 8) = 8 * L / 2 ^ (8 * k) % 256 := by
  have hc : k = 0 ∨ k = 1 ∨ k = 2 ∨ k = 3 := by omega
  rcases hc with rfl | rfl | rfl | rfl
  · rw [pk_ushrN (by omega) (nI (8 * 0)) 0 (by decide), pk_tn (by omega)]
  · rw [pk_ushrN (by omega) (nI (8 * 1)) 8 (by decide), pk_tn (by omega)]
  · rw [pk_ushrN (by omega) (nI (8 * 2)) 16 (by decide), pk_tn (by omega)]
  · rw [pk_ushrN (by omega) (nI (8 * 3)) 24 (by decide), pk_tn (by omega)]
theorem pad_M (L : Nat) (s : zSt) (hL : L < 500) : fmM s (pdM L s) ∧ (∀ i, i < L → (pdM L s).2.1 10 i = s.2.1 10 i) ∧ ∀ i, L ≤ i → i < (L + 144) / 128 * 128 → (pdM L s).2.1 10 i = nI (pbv L i) := by
  unfold pdM
  generalize hc : (239 - L % 128) % 128 = c
  have hen : L + 1 + c + 16 = (L + 144) / 128 * 128 := by omega
  obtain ⟨a1, a2⟩ := tk_M (nI 128) L s
  generalize fX10_tell (nI 128) L s = t at a1 a2
  have H := ziter_I (fX10_digests_12 L) (fun i σ => fmM s σ ∧ (∀ j, j < L → σ.2.1 10 j = s.2.1 10 j) ∧ σ.2.1 10 L = nI 128 ∧ ∀ j, L < j → j < L + 1 + i → σ.2.1 10 j = nI 0) c ?_ c 0 t (by omega) ?_
  rotate_left
  · intro i σ hi ⟨h1, h2, h3, h4⟩
    obtain ⟨b1, b2⟩ := tk_M (nI 0) (L + 1 + i) σ
    have e : fX10_digests_12 L i σ = fX10_tell (nI 0) (L + 1 + i) σ := rfl
    rw [e, b2]
    refine ⟨h1.trans b1, fun j hj => ?_, ?_, fun j h5 h6 => ?_⟩
    · rw [pk_un (by omega)]; exact h2 j hj
    · rw [pk_un (by omega)]; exact h3
    · by_cases q : j = L + 1 + i
      · rw [q, pk_us]
      · rw [pk_un q]
        exact h4 j h5 (by omega)
  · refine ⟨a1, fun j hj => ?_, ?_, fun j h5 h6 => by omega⟩
    · rw [a2, pk_un (by omega)]
    · rw [a2, pk_us]
  generalize ziter (fX10_digests_12 L) 0 c t = u at H ⊢
  obtain ⟨h1, h2, h3, h4⟩ := H
  have K := zdown_I (fX10_digests_36 L) (fun k σ => k ≤ 16 ∧ fmM s σ ∧ (∀ j, j < L → σ.2.1 10 j = s.2.1 10 j) ∧ σ.2.1 10 L = nI 128 ∧ (∀ j, L < j → j < L + 1 + c → σ.2.1 10 j = nI 0) ∧ ∀ j, L + 1 + c ≤ j → j < L + 1 + c + 16 - k → σ.2.1 10 j = nI (pbv L j)) ?_ 16 u ⟨Nat.le_refl _, h1, h2, h3, h4, fun j q1 q2 => by omega⟩
  · generalize zdown (fX10_digests_36 L) 16 u = v at K ⊢
    obtain ⟨-, g1, g2, g3, g4, g5⟩ := K
    refine ⟨g1, g2, fun i q1 q2 => ?_⟩
    by_cases q : i = L
    · rw [q, g3]
      unfold pbv
      rw [if_pos rfl]
    · by_cases q3 : i < L + 1 + c
      · rw [g4 i (by omega) q3]
        unfold pbv
        rw [if_neg q, if_neg (by omega), if_neg (by omega)]
      · exact g5 i (by omega) (by omega)
  · intro k σ ⟨q0, g1, g2, g3, g4, g5⟩
    have e : fX10_digests_36 L k σ = fX10_tell (nI (pbv L (L + 1 + c + 15 - k))) (L + 1 + c + 15 - k) σ := by
      unfold fX10_digests_36 fX10_digests_a1 fX10_digests_a2 pbv
      rw [hc, if_neg (show ¬ L + 1 + c + 15 - k = L by omega)]
      by_cases q : k ≤ 3
      · rw [if_pos q]
        dsimp only
        rw [ush_M hL q]
        by_cases q1 : k = 0
        · rw [if_pos (by omega), q1, show 8 * L / 2 ^ (8 * 0) = 8 * L by omega]
        · rw [if_neg (by omega)]
          by_cases q2 : k = 1
          · rw [if_pos (by omega), q2]
          · rw [if_neg (by omega)]
            have : 8 * L / 2 ^ (8 * k) % 256 = 0 := by
              have hc2 : k = 2 ∨ k = 3 := by omega
              rcases hc2 with rfl | rfl <;> omega
            rw [this]
      · rw [if_neg q, if_neg (by omega), if_neg (by omega)]
    obtain ⟨b1, b2⟩ := tk_M (nI (pbv L (L + 1 + c + 15 - k))) (L + 1 + c + 15 - k) σ
    rw [e, b2]
    refine ⟨by omega, g1.trans b1, fun j hj => ?_, ?_, fun j h5 h6 => ?_, fun j h5 h6 => ?_⟩
    · rw [pk_un (by omega)]; exact g2 j hj
    · rw [pk_un (by omega)]; exact g3
    · rw [pk_un (by omega)]; exact g4 j h5 h6
    · by_cases q : j = L + 1 + c + 15 - k
      · rw [q, pk_us]
      · rw [pk_un q]
        exact g5 j h5 (by omega)
theorem MR_pad {L : Nat} {s t : zSt} (h : MR L s t) (hL : L < 500) : MR ((L + 144) / 128 * 128) (fX5_pad ((L + 144) / 128 * 128) L s) (pdM L t) := by
  obtain ⟨-, a1, a2⟩ := pad_X L s hL
  obtain ⟨-, b1, b2⟩ := pad_M L t hL
  intro i hi
  by_cases q : i < L
  · rw [b1 i q, a1 i q]
    exact h i q
  · rw [b2 i (by omega) hi, a2 i (by omega) hi]
